/-! the class's helpers: what calls must have -/
/-- E is thrown, the cells stay -/
def bw_pz (E : String) (A : bw_H) : bw_O → bw_H → Prop := fun o A' => o = .inr E ∧ ∃ m, A.1 ≤ m ∧ A' = (m, A.2)
/-- a reference, nothing changed -/
def bw_pr' (a : Nat) (A : bw_H) : bw_O → bw_H → Prop := fun o A' => o = .inl (some (.ref a)) ∧ A' = A
section BWY
variable {g : bw_G} {R R' : Room} {k k' : bw_M} {Q : bw_O → bw_H → Prop} {cu su pc i n ci b : Nat} {lv : List (Nat × Value)} {st st0 As fs : List Value} {A : bw_H}
theorem bw_cVz {E : String} (pc' : Nat) (hd : decode k.2.1 pc = .ok (.invokevirtual i, 3)) (hp : pc + 3 = pc') (hw : bw_cv k.1.cls i k' n ci) (hM : bw_C g R' k' (.ref b :: As) A (bw_pz E A)) (hb : A.2 b = some (.inr (ci, fs))) (hn : As.length = n) (hst : st0 = As.reverse ++ .ref b :: st) (hcat : (st.map fun v => v.category).sum ≤ 8)
    (hR : R'.frames + 1 ≤ R.frames ∧ 8 + (k'.2.2.1 + 11) + R'.locals ≤ R.locals) (hc : cu + R'.cells ≤ R.cells) (hsl : su + R'.slots ≤ R.slots) (ht : k.2.2.2.2 = []) (hx : ∀ m, A.1 ≤ m → Q (.inr E) (m, A.2)) : bw_W g R k Q cu su pc lv st0 A :=
  bw_callV pc' hd hp hw hM hb hn hst hcat hR hc hsl (fun E' A' h => by
    obtain ⟨h1, m, h2, h3⟩ := h
    have h1 : E' = E := Sum.inr.inj h1
    subst h1
    subst h3
    exact bw_Tout ht hc hsl (hx m h2)) (fun v A' h => by cases h.1)
theorem bw_cSz {E : String} (pc' : Nat) (hd : decode k.2.1 pc = .ok (.invokestatic i, 3)) (hp : pc + 3 = pc') (hw : bw_cs k.1.cls i k' n) (hM : bw_C g R' k' As A (bw_pz E A)) (hn : As.length = n) (hst : st0 = As.reverse ++ st) (hcat : (st.map fun v => v.category).sum ≤ 8)
    (hR : R'.frames + 1 ≤ R.frames ∧ 8 + (k'.2.2.1 + 11) + R'.locals ≤ R.locals) (hc : cu + R'.cells ≤ R.cells) (hsl : su + R'.slots ≤ R.slots) (ht : k.2.2.2.2 = []) (hx : ∀ m, A.1 ≤ m → Q (.inr E) (m, A.2)) : bw_W g R k Q cu su pc lv st0 A :=
  bw_callS pc' hd hp hw hM hn hst hcat hR hc hsl (fun E' A' h => by
    obtain ⟨h1, m, h2, h3⟩ := h
    have h1 : E' = E := Sum.inr.inj h1
    subst h1
    subst h3
    exact bw_Tout ht hc hsl (hx m h2)) (fun v A' h => by cases h.1)
theorem bw_cVr {a : Nat} (pc' : Nat) (hd : decode k.2.1 pc = .ok (.invokevirtual i, 3)) (hp : pc + 3 = pc') (hw : bw_cv k.1.cls i k' n ci) (hM : bw_C g R' k' (.ref b :: As) A (bw_pr' a A)) (hb : A.2 b = some (.inr (ci, fs))) (hn : As.length = n) (hst : st0 = As.reverse ++ .ref b :: st) (hcat : (st.map fun v => v.category).sum ≤ 8)
    (hR : R'.frames + 1 ≤ R.frames ∧ 8 + (k'.2.2.1 + 11) + R'.locals ≤ R.locals) (hc : cu + R'.cells ≤ R.cells) (hsl : su + R'.slots ≤ R.slots) (kk : bw_W g R k Q (cu + R'.cells) (su + R'.slots) pc' lv (.ref a :: st) A) : bw_W g R k Q cu su pc lv st0 A :=
  bw_callV pc' hd hp hw hM hb hn hst hcat hR hc hsl (fun E A' h => by cases h.1) (fun v A' h => by
    obtain ⟨h1, h2⟩ := h
    have h1 : v = some (.ref a) := Sum.inl.inj h1
    rw [h1, h2]
    exact kk)
end BWY
/-- an int that is a member -/
def mI (n : Nat) (a : Int32) : Prop := ¬ a < 0 ∧ a < nI (2 ^ n)
theorem mI_of {n : Nat} (hn : 2 ^ n ≤ 65536) {a : Int32} (h : mI n a) : ∃ k, k < 2 ^ n ∧ a = nI k := by
  obtain ⟨k, hk, rfl⟩ := nI_of h.1
  exact ⟨k, (nI_ltI hk (by omega)).mp h.2, rfl⟩
theorem mI_nI {n k : Nat} (hn : 2 ^ n ≤ 65536) (hk : k < 2 ^ n) : mI n (nI k) := ⟨nI_pos (by omega), nI_lt hk (by omega)⟩
abbrev eIA : String := "java/lang/IllegalArgumentException"
abbrev eIS : String := "java/lang/IllegalStateException"
abbrev eIO : String := "java/lang/IndexOutOfBoundsException"
abbrev eUO : String := "java/lang/UnsupportedOperationException"
abbrev eAE : String := "java/lang/ArithmeticException"
abbrev eAI : String := "java/lang/ArrayIndexOutOfBoundsException"
set_option maxHeartbeats 4000000 in
theorem c9_nm (g : bw_G) {A : bw_H} {x n p gg rn mn pn sn : Nat} {a : Int32} (hC : bw_has A [(x, xob x n rn mn pn sn), (x + 9, fob n p gg (x + 9))]) (h : mI n a) : bw_C g (bw_rm 6 1 6) mX9_needMember [.ref x, .int a] A (bw_pv (fun A' => A' = A)) := by
  refine bw_C.of (by decide) (Nat.le_of_ble_eq_true rfl) rfl ?_
  refine bw_iload_n 1 dX9_needMember_0 rfl rfl ?_
  refine bw_if_lt 15 4 dX9_needMember_1 rfl rfl (fun c1 => ?_) (fun c1 => ?_)
  · exact absurd c1 h.1
  · refine bw_iload_n 5 dX9_needMember_4 rfl rfl ?_
    refine bw_aload_n 6 dX9_needMember_5 rfl rfl ?_
    refine bw_get 9 dX9_needMember_6 rfl lX9_43 (hC.at 0 rfl) rfl ?_
    refine bw_get 12 dX9_needMember_9 rfl lX9_301 (hC.at 1 rfl) rfl ?_
    refine bw_icmp_lt 26 15 dX9_needMember_12 rfl rfl (fun c12 => ?_) (fun c12 => ?_)
    · refine bw_vret dX9_needMember_26 rfl (Nat.le_of_ble_eq_true rfl) (Nat.le_of_ble_eq_true rfl) ?_
      exact ⟨rfl, rfl⟩
    · exact absurd h.2 c12
set_option maxHeartbeats 4000000 in
theorem c9_nmX (g : bw_G) {A : bw_H} {x n p gg rn mn pn sn : Nat} {a : Int32} (hC : bw_has A [(x, xob x n rn mn pn sn), (x + 9, fob n p gg (x + 9))]) (h : ¬ mI n a) : bw_C g (bw_rm 6 1 6) mX9_needMember [.ref x, .int a] A (bw_pz eIA A) := by
  refine bw_C.of (by decide) (Nat.le_of_ble_eq_true rfl) rfl ?_
  refine bw_iload_n 1 dX9_needMember_0 rfl rfl ?_
  refine bw_if_lt 15 4 dX9_needMember_1 rfl rfl (fun c1 => ?_) (fun c1 => ?_)
  · refine bw_throwW "no member" dX9_needMember_15 dX9_needMember_18 dX9_needMember_19 dX9_needMember_22 dX9_needMember_25 tX9_180 (by decide +kernel) rfl (Nat.le_of_ble_eq_true rfl) (Nat.le_of_ble_eq_true rfl) (Nat.le_of_ble_eq_true rfl) (Nat.le_of_ble_eq_true rfl) ?_
    exact fun m hm => ⟨rfl, m, hm, rfl⟩
  · refine bw_iload_n 5 dX9_needMember_4 rfl rfl ?_
    refine bw_aload_n 6 dX9_needMember_5 rfl rfl ?_
    refine bw_get 9 dX9_needMember_6 rfl lX9_43 (hC.at 0 rfl) rfl ?_
    refine bw_get 12 dX9_needMember_9 rfl lX9_301 (hC.at 1 rfl) rfl ?_
    refine bw_icmp_lt 26 15 dX9_needMember_12 rfl rfl (fun c12 => ?_) (fun c12 => ?_)
    · exact absurd ⟨c1, c12⟩ h
    · refine bw_throwW "no member" dX9_needMember_15 dX9_needMember_18 dX9_needMember_19 dX9_needMember_22 dX9_needMember_25 tX9_180 (by decide +kernel) rfl (Nat.le_of_ble_eq_true rfl) (Nat.le_of_ble_eq_true rfl) (Nat.le_of_ble_eq_true rfl) (Nat.le_of_ble_eq_true rfl) ?_
      exact fun m hm => ⟨rfl, m, hm, rfl⟩
/-- a number of rows or columns -/
def sI (a : Int32) : Prop := ¬ a < 1 ∧ a ≤ 8
theorem sI_of {a : Int32} (h : sI a) : ∃ k, 1 ≤ k ∧ k ≤ 8 ∧ a = nI k := by
  have h0 : ¬ a < 0 := fun h0 => h.1 (Int32.lt_trans h0 (by decide))
  obtain ⟨k, hk, rfl⟩ := nI_of h0
  exact ⟨k, Nat.not_lt.mp (fun h1 => h.1 (nI_lt (b := 1) h1 (by omega))), (nI_leI (b := 8) hk (by omega)).mp h.2, rfl⟩
set_option maxHeartbeats 4000000 in
theorem c9_ns (g : bw_G) {A : bw_H} {a b : Int32} (h : sI a) (h' : sI b) : bw_C g (bw_rm 6 1 6) mX9_needSides [.int a, .int b] A (bw_pv (fun A' => A' = A)) := by
  refine bw_C.of (by decide) (Nat.le_of_ble_eq_true rfl) rfl ?_
  refine bw_iload_n 1 dX9_needSides_0 rfl rfl ?_
  refine bw_iconst (1) 2 dX9_needSides_1 (by decide) rfl ?_
  refine bw_icmp_lt 22 5 dX9_needSides_2 rfl rfl (fun c2 => ?_) (fun c2 => ?_)
  · exact absurd c2 h.1
  · refine bw_iload_n 6 dX9_needSides_5 rfl rfl ?_
    refine bw_bipush (8) 8 dX9_needSides_6 (by decide) rfl ?_
    refine bw_icmp_gt 22 11 dX9_needSides_8 rfl rfl (fun c8 => ?_) (fun c8 => ?_)
    · exact absurd h.2 (Int32.not_le.mpr c8)
    · refine bw_iload_n 12 dX9_needSides_11 rfl rfl ?_
      refine bw_iconst (1) 13 dX9_needSides_12 (by decide) rfl ?_
      refine bw_icmp_lt 22 16 dX9_needSides_13 rfl rfl (fun c13 => ?_) (fun c13 => ?_)
      · exact absurd c13 h'.1
      · refine bw_iload_n 17 dX9_needSides_16 rfl rfl ?_
        refine bw_bipush (8) 19 dX9_needSides_17 (by decide) rfl ?_
        refine bw_icmp_le 33 22 dX9_needSides_19 rfl rfl (fun c19 => ?_) (fun c19 => ?_)
        · refine bw_vret dX9_needSides_33 rfl (Nat.le_of_ble_eq_true rfl) (Nat.le_of_ble_eq_true rfl) ?_
          exact ⟨rfl, rfl⟩
        · exact absurd h'.2 c19
set_option maxHeartbeats 4000000 in
theorem c9_nsX (g : bw_G) {A : bw_H} {a b : Int32} (h : ¬ (sI a ∧ sI b)) : bw_C g (bw_rm 6 1 6) mX9_needSides [.int a, .int b] A (bw_pz eIA A) := by
  refine bw_C.of (by decide) (Nat.le_of_ble_eq_true rfl) rfl ?_
  refine bw_iload_n 1 dX9_needSides_0 rfl rfl ?_
  refine bw_iconst (1) 2 dX9_needSides_1 (by decide) rfl ?_
  refine bw_icmp_lt 22 5 dX9_needSides_2 rfl rfl (fun c2 => ?_) (fun c2 => ?_)
  · refine bw_throwW "a matrix has 1 to 8 rows and columns" dX9_needSides_22 dX9_needSides_25 dX9_needSides_26 dX9_needSides_29 dX9_needSides_32 tX9_180 (by decide +kernel) rfl (Nat.le_of_ble_eq_true rfl) (Nat.le_of_ble_eq_true rfl) (Nat.le_of_ble_eq_true rfl) (Nat.le_of_ble_eq_true rfl) ?_
    exact fun m hm => ⟨rfl, m, hm, rfl⟩
  · refine bw_iload_n 6 dX9_needSides_5 rfl rfl ?_
    refine bw_bipush (8) 8 dX9_needSides_6 (by decide) rfl ?_
    refine bw_icmp_gt 22 11 dX9_needSides_8 rfl rfl (fun c8 => ?_) (fun c8 => ?_)
    · refine bw_throwW "a matrix has 1 to 8 rows and columns" dX9_needSides_22 dX9_needSides_25 dX9_needSides_26 dX9_needSides_29 dX9_needSides_32 tX9_180 (by decide +kernel) rfl (Nat.le_of_ble_eq_true rfl) (Nat.le_of_ble_eq_true rfl) (Nat.le_of_ble_eq_true rfl) (Nat.le_of_ble_eq_true rfl) ?_
      exact fun m hm => ⟨rfl, m, hm, rfl⟩
    · refine bw_iload_n 12 dX9_needSides_11 rfl rfl ?_
      refine bw_iconst (1) 13 dX9_needSides_12 (by decide) rfl ?_
      refine bw_icmp_lt 22 16 dX9_needSides_13 rfl rfl (fun c13 => ?_) (fun c13 => ?_)
      · refine bw_throwW "a matrix has 1 to 8 rows and columns" dX9_needSides_22 dX9_needSides_25 dX9_needSides_26 dX9_needSides_29 dX9_needSides_32 tX9_180 (by decide +kernel) rfl (Nat.le_of_ble_eq_true rfl) (Nat.le_of_ble_eq_true rfl) (Nat.le_of_ble_eq_true rfl) (Nat.le_of_ble_eq_true rfl) ?_
        exact fun m hm => ⟨rfl, m, hm, rfl⟩
      · refine bw_iload_n 17 dX9_needSides_16 rfl rfl ?_
        refine bw_bipush (8) 19 dX9_needSides_17 (by decide) rfl ?_
        refine bw_icmp_le 33 22 dX9_needSides_19 rfl rfl (fun c19 => ?_) (fun c19 => ?_)
        · exact absurd ⟨⟨c2, Int32.not_lt.mp c8⟩, ⟨c13, c19⟩⟩ h
        · refine bw_throwW "a matrix has 1 to 8 rows and columns" dX9_needSides_22 dX9_needSides_25 dX9_needSides_26 dX9_needSides_29 dX9_needSides_32 tX9_180 (by decide +kernel) rfl (Nat.le_of_ble_eq_true rfl) (Nat.le_of_ble_eq_true rfl) (Nat.le_of_ble_eq_true rfl) (Nat.le_of_ble_eq_true rfl) ?_
          exact fun m hm => ⟨rfl, m, hm, rfl⟩
set_option maxHeartbeats 4000000 in
theorem c9_nq (g : bw_G) {A : bw_H} {M r c : Nat} (hC : bw_has A [(M, mob M r c)]) (h : r = c) : bw_C g (bw_rm 6 1 6) mX9_needSquare [.ref M] A (bw_pv (fun A' => A' = A)) := by
  refine bw_C.of (by decide) (Nat.le_of_ble_eq_true rfl) rfl ?_
  refine bw_aload_n 1 dX9_needSquare_0 rfl rfl ?_
  refine bw_get 4 dX9_needSquare_1 rfl lX9_185 (hC.at 0 rfl) rfl ?_
  refine bw_aload_n 5 dX9_needSquare_4 rfl rfl ?_
  refine bw_get 8 dX9_needSquare_5 rfl lX9_188 (hC.at 0 rfl) rfl ?_
  refine bw_icmp_eq 22 11 dX9_needSquare_8 rfl rfl (fun c8 => ?_) (fun c8 => ?_)
  · refine bw_vret dX9_needSquare_22 rfl (Nat.le_of_ble_eq_true rfl) (Nat.le_of_ble_eq_true rfl) ?_
    exact ⟨rfl, rfl⟩
  · exact absurd (by rw [h]) c8
set_option maxHeartbeats 4000000 in
theorem c9_nqX (g : bw_G) {A : bw_H} {M r c : Nat} (hC : bw_has A [(M, mob M r c)]) (hr : r ≤ 8) (hc : c ≤ 8) (h : r ≠ c) : bw_C g (bw_rm 6 1 6) mX9_needSquare [.ref M] A (bw_pz eIS A) := by
  refine bw_C.of (by decide) (Nat.le_of_ble_eq_true rfl) rfl ?_
  refine bw_aload_n 1 dX9_needSquare_0 rfl rfl ?_
  refine bw_get 4 dX9_needSquare_1 rfl lX9_185 (hC.at 0 rfl) rfl ?_
  refine bw_aload_n 5 dX9_needSquare_4 rfl rfl ?_
  refine bw_get 8 dX9_needSquare_5 rfl lX9_188 (hC.at 0 rfl) rfl ?_
  refine bw_icmp_eq 22 11 dX9_needSquare_8 rfl rfl (fun c8 => ?_) (fun c8 => ?_)
  · exact absurd ((nI_eq (by omega) (by omega)).mp c8) h
  · refine bw_throwW "the matrix is not square" dX9_needSquare_11 dX9_needSquare_14 dX9_needSquare_15 dX9_needSquare_18 dX9_needSquare_21 tX9_163 (by decide +kernel) rfl (Nat.le_of_ble_eq_true rfl) (Nat.le_of_ble_eq_true rfl) (Nat.le_of_ble_eq_true rfl) (Nat.le_of_ble_eq_true rfl) ?_
    exact fun m hm => ⟨rfl, m, hm, rfl⟩
set_option maxHeartbeats 4000000 in
theorem c9_nr (g : bw_G) {A : bw_H} {x n rn mn pn sn : Nat} (hC : bw_has A [(x, xob x n rn mn pn sn)]) (h : mn < 40) : bw_C g (bw_rm 6 1 6) mX9_needMatrixRoom [.ref x] A (bw_pv (fun A' => A' = A)) := by
  refine bw_C.of (by decide) (Nat.le_of_ble_eq_true rfl) rfl ?_
  refine bw_aload_n 1 dX9_needMatrixRoom_0 rfl rfl ?_
  refine bw_get 4 dX9_needMatrixRoom_1 rfl lX9_337 (hC.at 0 rfl) rfl ?_
  refine bw_bipush (40) 6 dX9_needMatrixRoom_4 (by decide) rfl ?_
  refine bw_eqi (y := nI 40) rfl ?_
  refine bw_icmp_lt 20 9 dX9_needMatrixRoom_6 rfl rfl (fun c6 => ?_) (fun c6 => ?_)
  · refine bw_vret dX9_needMatrixRoom_20 rfl (Nat.le_of_ble_eq_true rfl) (Nat.le_of_ble_eq_true rfl) ?_
    exact ⟨rfl, rfl⟩
  · exact absurd (nI_lt h (by omega)) c6
set_option maxHeartbeats 4000000 in
theorem c9_nrX (g : bw_G) {A : bw_H} {x n rn mn pn sn : Nat} (hC : bw_has A [(x, xob x n rn mn pn sn)]) (h : mn = 40) : bw_C g (bw_rm 6 1 6) mX9_needMatrixRoom [.ref x] A (bw_pz eUO A) := by
  refine bw_C.of (by decide) (Nat.le_of_ble_eq_true rfl) rfl ?_
  refine bw_aload_n 1 dX9_needMatrixRoom_0 rfl rfl ?_
  refine bw_get 4 dX9_needMatrixRoom_1 rfl lX9_337 (hC.at 0 rfl) rfl ?_
  refine bw_bipush (40) 6 dX9_needMatrixRoom_4 (by decide) rfl ?_
  refine bw_eqi (y := nI 40) rfl ?_
  refine bw_icmp_lt 20 9 dX9_needMatrixRoom_6 rfl rfl (fun c6 => ?_) (fun c6 => ?_)
  · exact absurd ((nI_ltI (by omega) (by omega)).mp c6) (by omega)
  · refine bw_throwW "a matrix too many" dX9_needMatrixRoom_9 dX9_needMatrixRoom_12 dX9_needMatrixRoom_13 dX9_needMatrixRoom_16 dX9_needMatrixRoom_19 tX9_138 (by decide +kernel) rfl (Nat.le_of_ble_eq_true rfl) (Nat.le_of_ble_eq_true rfl) (Nat.le_of_ble_eq_true rfl) (Nat.le_of_ble_eq_true rfl) ?_
    exact fun m hm => ⟨rfl, m, hm, rfl⟩
set_option maxHeartbeats 4000000 in
theorem c9_np (g : bw_G) {A : bw_H} {x n rn mn pn sn : Nat} (hC : bw_has A [(x, xob x n rn mn pn sn)]) (h : pn < 40) : bw_C g (bw_rm 6 1 6) mX9_needPolynomialRoom [.ref x] A (bw_pv (fun A' => A' = A)) := by
  refine bw_C.of (by decide) (Nat.le_of_ble_eq_true rfl) rfl ?_
  refine bw_aload_n 1 dX9_needPolynomialRoom_0 rfl rfl ?_
  refine bw_get 4 dX9_needPolynomialRoom_1 rfl lX9_340 (hC.at 0 rfl) rfl ?_
  refine bw_bipush (40) 6 dX9_needPolynomialRoom_4 (by decide) rfl ?_
  refine bw_eqi (y := nI 40) rfl ?_
  refine bw_icmp_lt 20 9 dX9_needPolynomialRoom_6 rfl rfl (fun c6 => ?_) (fun c6 => ?_)
  · refine bw_vret dX9_needPolynomialRoom_20 rfl (Nat.le_of_ble_eq_true rfl) (Nat.le_of_ble_eq_true rfl) ?_
    exact ⟨rfl, rfl⟩
  · exact absurd (nI_lt h (by omega)) c6
set_option maxHeartbeats 4000000 in
theorem c9_npX (g : bw_G) {A : bw_H} {x n rn mn pn sn : Nat} (hC : bw_has A [(x, xob x n rn mn pn sn)]) (h : pn = 40) : bw_C g (bw_rm 6 1 6) mX9_needPolynomialRoom [.ref x] A (bw_pz eUO A) := by
  refine bw_C.of (by decide) (Nat.le_of_ble_eq_true rfl) rfl ?_
  refine bw_aload_n 1 dX9_needPolynomialRoom_0 rfl rfl ?_
  refine bw_get 4 dX9_needPolynomialRoom_1 rfl lX9_340 (hC.at 0 rfl) rfl ?_
  refine bw_bipush (40) 6 dX9_needPolynomialRoom_4 (by decide) rfl ?_
  refine bw_eqi (y := nI 40) rfl ?_
  refine bw_icmp_lt 20 9 dX9_needPolynomialRoom_6 rfl rfl (fun c6 => ?_) (fun c6 => ?_)
  · exact absurd ((nI_ltI (by omega) (by omega)).mp c6) (by omega)
  · refine bw_throwW "a polynomial too many" dX9_needPolynomialRoom_9 dX9_needPolynomialRoom_12 dX9_needPolynomialRoom_13 dX9_needPolynomialRoom_16 dX9_needPolynomialRoom_19 tX9_138 (by decide +kernel) rfl (Nat.le_of_ble_eq_true rfl) (Nat.le_of_ble_eq_true rfl) (Nat.le_of_ble_eq_true rfl) (Nat.le_of_ble_eq_true rfl) ?_
    exact fun m hm => ⟨rfl, m, hm, rfl⟩
set_option maxHeartbeats 4000000 in
theorem c9_nS (g : bw_G) {A : bw_H} {x n rn mn pn sn : Nat} (hC : bw_has A [(x, xob x n rn mn pn sn)]) (h : sn ≠ 0) (h' : sn ≤ 64) : bw_C g (bw_rm 6 1 6) mX9_needSpan [.ref x] A (bw_pv (fun A' => A' = A)) := by
  refine bw_C.of (by decide) (Nat.le_of_ble_eq_true rfl) rfl ?_
  refine bw_aload_n 1 dX9_needSpan_0 rfl rfl ?_
  refine bw_get 4 dX9_needSpan_1 rfl lX9_326 (hC.at 0 rfl) rfl ?_
  refine bw_if_ne 18 7 dX9_needSpan_4 rfl rfl (fun c4 => ?_) (fun c4 => ?_)
  · refine bw_vret dX9_needSpan_18 rfl (Nat.le_of_ble_eq_true rfl) (Nat.le_of_ble_eq_true rfl) ?_
    exact ⟨rfl, rfl⟩
  · exact absurd ((xn_eq0 (by omega)).mp c4) h
set_option maxHeartbeats 4000000 in
theorem c9_nSX (g : bw_G) {A : bw_H} {x n rn mn pn sn : Nat} (hC : bw_has A [(x, xob x n rn mn pn sn)]) (h : sn = 0) : bw_C g (bw_rm 6 1 6) mX9_needSpan [.ref x] A (bw_pz eIS A) := by
  refine bw_C.of (by decide) (Nat.le_of_ble_eq_true rfl) rfl ?_
  refine bw_aload_n 1 dX9_needSpan_0 rfl rfl ?_
  refine bw_get 4 dX9_needSpan_1 rfl lX9_326 (hC.at 0 rfl) rfl ?_
  refine bw_if_ne 18 7 dX9_needSpan_4 rfl rfl (fun c4 => ?_) (fun c4 => ?_)
  · exact absurd ((xn_eq0 (by omega)).mpr h) c4
  · refine bw_throwW "there is no span yet" dX9_needSpan_7 dX9_needSpan_10 dX9_needSpan_11 dX9_needSpan_14 dX9_needSpan_17 tX9_163 (by decide +kernel) rfl (Nat.le_of_ble_eq_true rfl) (Nat.le_of_ble_eq_true rfl) (Nat.le_of_ble_eq_true rfl) (Nat.le_of_ble_eq_true rfl) ?_
    exact fun m hm => ⟨rfl, m, hm, rfl⟩
/-- a number below m -/
def kI (m : Nat) (a : Int32) : Prop := ¬ a < 0 ∧ a < nI m
theorem kI_of {m : Nat} (hm : m < 2 ^ 31) {a : Int32} (h : kI m a) : ∃ k, k < m ∧ a = nI k := by
  obtain ⟨k, hk, rfl⟩ := nI_of h.1
  exact ⟨k, (nI_ltI hk (by omega)).mp h.2, rfl⟩
theorem kI_nI {m k : Nat} (hm : m < 2 ^ 31) (hk : k < m) : kI m (nI k) := ⟨nI_pos (by omega), nI_lt hk (by omega)⟩
set_option maxHeartbeats 4000000 in
theorem c9_ma (g : bw_G) {A : bw_H} {x n rn mn pn sn k a : Nat} {MA : Nat → Option Nat} (hC : bw_has A [(x, xob x n rn mn pn sn), (x + 6, bw_aq g 3 40 MA)]) (hk : k < mn) (hm : mn ≤ 40) (ha : MA k = some a) : bw_C g (bw_rm 6 1 6) mX9_matrixAt [.ref x, .int (nI k)] A (bw_pr' a A) := by
  refine bw_C.of (by decide) (Nat.le_of_ble_eq_true rfl) rfl ?_
  refine bw_iload_n 1 dX9_matrixAt_0 rfl rfl ?_
  refine bw_if_lt 21 4 dX9_matrixAt_1 rfl rfl (fun c1 => ?_) (fun c1 => ?_)
  · exact absurd c1 (nI_pos (by omega))
  · refine bw_iload_n 5 dX9_matrixAt_4 rfl rfl ?_
    refine bw_aload_n 6 dX9_matrixAt_5 rfl rfl ?_
    refine bw_get 9 dX9_matrixAt_6 rfl lX9_337 (hC.at 0 rfl) rfl ?_
    refine bw_icmp_ge 21 12 dX9_matrixAt_9 rfl rfl (fun c9 => ?_) (fun c9 => ?_)
    · exact absurd c9 (nI_ge hk (by omega))
    · refine bw_aload_n 13 dX9_matrixAt_12 rfl rfl ?_
      refine bw_get 16 dX9_matrixAt_13 rfl lX9_27 (hC.at 0 rfl) rfl ?_
      refine bw_iload_n 17 dX9_matrixAt_16 rfl rfl ?_
      refine bw_aaldN 18 dX9_matrixAt_17 rfl rfl rfl (hC.at 1 rfl) (by omega) (by omega) (ha) ?_
      refine bw_goto 22 dX9_matrixAt_18 rfl ?_
      refine bw_astore_n 23 dX9_matrixAt_22 rfl (by decide) ?_
      refine bw_aload_n 24 dX9_matrixAt_23 rfl rfl ?_
      refine bw_ifnonnull 38 dX9_matrixAt_24 rfl ?_
      refine bw_aload_n 39 dX9_matrixAt_38 rfl rfl ?_
      refine bw_aret dX9_matrixAt_39 rfl (Nat.le_of_ble_eq_true rfl) (Nat.le_of_ble_eq_true rfl) ?_
      exact ⟨rfl, rfl⟩
set_option maxHeartbeats 4000000 in
theorem c9_maX (g : bw_G) {A : bw_H} {x n rn mn pn sn : Nat} {a : Int32} (hC : bw_has A [(x, xob x n rn mn pn sn)]) (h : ¬ kI mn a) : bw_C g (bw_rm 6 1 6) mX9_matrixAt [.ref x, .int a] A (bw_pz eIO A) := by
  refine bw_C.of (by decide) (Nat.le_of_ble_eq_true rfl) rfl ?_
  refine bw_iload_n 1 dX9_matrixAt_0 rfl rfl ?_
  refine bw_if_lt 21 4 dX9_matrixAt_1 rfl rfl (fun c1 => ?_) (fun c1 => ?_)
  · refine bw_null 22 dX9_matrixAt_21 rfl ?_
    refine bw_astoreN_n 23 dX9_matrixAt_22 rfl (by decide) ?_
    refine bw_aloadN_n 24 dX9_matrixAt_23 rfl rfl ?_
    refine bw_ifnonnullN 27 dX9_matrixAt_24 rfl ?_
    refine bw_throwW "no such matrix" dX9_matrixAt_27 dX9_matrixAt_30 dX9_matrixAt_31 dX9_matrixAt_34 dX9_matrixAt_37 tX9_143 (by decide +kernel) rfl (Nat.le_of_ble_eq_true rfl) (Nat.le_of_ble_eq_true rfl) (Nat.le_of_ble_eq_true rfl) (Nat.le_of_ble_eq_true rfl) ?_
    exact fun m hm => ⟨rfl, m, hm, rfl⟩
  · refine bw_iload_n 5 dX9_matrixAt_4 rfl rfl ?_
    refine bw_aload_n 6 dX9_matrixAt_5 rfl rfl ?_
    refine bw_get 9 dX9_matrixAt_6 rfl lX9_337 (hC.at 0 rfl) rfl ?_
    refine bw_icmp_ge 21 12 dX9_matrixAt_9 rfl rfl (fun c9 => ?_) (fun c9 => ?_)
    · refine bw_null 22 dX9_matrixAt_21 rfl ?_
      refine bw_astoreN_n 23 dX9_matrixAt_22 rfl (by decide) ?_
      refine bw_aloadN_n 24 dX9_matrixAt_23 rfl rfl ?_
      refine bw_ifnonnullN 27 dX9_matrixAt_24 rfl ?_
      refine bw_throwW "no such matrix" dX9_matrixAt_27 dX9_matrixAt_30 dX9_matrixAt_31 dX9_matrixAt_34 dX9_matrixAt_37 tX9_143 (by decide +kernel) rfl (Nat.le_of_ble_eq_true rfl) (Nat.le_of_ble_eq_true rfl) (Nat.le_of_ble_eq_true rfl) (Nat.le_of_ble_eq_true rfl) ?_
      exact fun m hm => ⟨rfl, m, hm, rfl⟩
    · exact absurd ⟨c1, Int32.not_le.mp c9⟩ h
set_option maxHeartbeats 4000000 in
theorem c9_pa (g : bw_G) {A : bw_H} {x n rn mn pn sn k a : Nat} {PA : Nat → Option Nat} (hC : bw_has A [(x, xob x n rn mn pn sn), (x + 7, bw_aq g 4 40 PA)]) (hk : k < pn) (hm : pn ≤ 40) (ha : PA k = some a) : bw_C g (bw_rm 6 1 6) mX9_polynomialAt [.ref x, .int (nI k)] A (bw_pr' a A) := by
  refine bw_C.of (by decide) (Nat.le_of_ble_eq_true rfl) rfl ?_
  refine bw_iload_n 1 dX9_polynomialAt_0 rfl rfl ?_
  refine bw_if_lt 21 4 dX9_polynomialAt_1 rfl rfl (fun c1 => ?_) (fun c1 => ?_)
  · exact absurd c1 (nI_pos (by omega))
  · refine bw_iload_n 5 dX9_polynomialAt_4 rfl rfl ?_
    refine bw_aload_n 6 dX9_polynomialAt_5 rfl rfl ?_
    refine bw_get 9 dX9_polynomialAt_6 rfl lX9_340 (hC.at 0 rfl) rfl ?_
    refine bw_icmp_ge 21 12 dX9_polynomialAt_9 rfl rfl (fun c9 => ?_) (fun c9 => ?_)
    · exact absurd c9 (nI_ge hk (by omega))
    · refine bw_aload_n 13 dX9_polynomialAt_12 rfl rfl ?_
      refine bw_get 16 dX9_polynomialAt_13 rfl lX9_31 (hC.at 0 rfl) rfl ?_
      refine bw_iload_n 17 dX9_polynomialAt_16 rfl rfl ?_
      refine bw_aaldN 18 dX9_polynomialAt_17 rfl rfl rfl (hC.at 1 rfl) (by omega) (by omega) (ha) ?_
      refine bw_goto 22 dX9_polynomialAt_18 rfl ?_
      refine bw_astore_n 23 dX9_polynomialAt_22 rfl (by decide) ?_
      refine bw_aload_n 24 dX9_polynomialAt_23 rfl rfl ?_
      refine bw_ifnonnull 38 dX9_polynomialAt_24 rfl ?_
      refine bw_aload_n 39 dX9_polynomialAt_38 rfl rfl ?_
      refine bw_aret dX9_polynomialAt_39 rfl (Nat.le_of_ble_eq_true rfl) (Nat.le_of_ble_eq_true rfl) ?_
      exact ⟨rfl, rfl⟩
set_option maxHeartbeats 4000000 in
theorem c9_paX (g : bw_G) {A : bw_H} {x n rn mn pn sn : Nat} {a : Int32} (hC : bw_has A [(x, xob x n rn mn pn sn)]) (h : ¬ kI pn a) : bw_C g (bw_rm 6 1 6) mX9_polynomialAt [.ref x, .int a] A (bw_pz eIO A) := by
  refine bw_C.of (by decide) (Nat.le_of_ble_eq_true rfl) rfl ?_
  refine bw_iload_n 1 dX9_polynomialAt_0 rfl rfl ?_
  refine bw_if_lt 21 4 dX9_polynomialAt_1 rfl rfl (fun c1 => ?_) (fun c1 => ?_)
  · refine bw_null 22 dX9_polynomialAt_21 rfl ?_
    refine bw_astoreN_n 23 dX9_polynomialAt_22 rfl (by decide) ?_
    refine bw_aloadN_n 24 dX9_polynomialAt_23 rfl rfl ?_
    refine bw_ifnonnullN 27 dX9_polynomialAt_24 rfl ?_
    refine bw_throwW "no such polynomial" dX9_polynomialAt_27 dX9_polynomialAt_30 dX9_polynomialAt_31 dX9_polynomialAt_34 dX9_polynomialAt_37 tX9_143 (by decide +kernel) rfl (Nat.le_of_ble_eq_true rfl) (Nat.le_of_ble_eq_true rfl) (Nat.le_of_ble_eq_true rfl) (Nat.le_of_ble_eq_true rfl) ?_
    exact fun m hm => ⟨rfl, m, hm, rfl⟩
  · refine bw_iload_n 5 dX9_polynomialAt_4 rfl rfl ?_
    refine bw_aload_n 6 dX9_polynomialAt_5 rfl rfl ?_
    refine bw_get 9 dX9_polynomialAt_6 rfl lX9_340 (hC.at 0 rfl) rfl ?_
    refine bw_icmp_ge 21 12 dX9_polynomialAt_9 rfl rfl (fun c9 => ?_) (fun c9 => ?_)
    · refine bw_null 22 dX9_polynomialAt_21 rfl ?_
      refine bw_astoreN_n 23 dX9_polynomialAt_22 rfl (by decide) ?_
      refine bw_aloadN_n 24 dX9_polynomialAt_23 rfl rfl ?_
      refine bw_ifnonnullN 27 dX9_polynomialAt_24 rfl ?_
      refine bw_throwW "no such polynomial" dX9_polynomialAt_27 dX9_polynomialAt_30 dX9_polynomialAt_31 dX9_polynomialAt_34 dX9_polynomialAt_37 tX9_143 (by decide +kernel) rfl (Nat.le_of_ble_eq_true rfl) (Nat.le_of_ble_eq_true rfl) (Nat.le_of_ble_eq_true rfl) (Nat.le_of_ble_eq_true rfl) ?_
      exact fun m hm => ⟨rfl, m, hm, rfl⟩
    · exact absurd ⟨c1, Int32.not_le.mp c9⟩ h
set_option maxHeartbeats 4000000 in
theorem c9_pl (g : bw_G) {A : bw_H} {M r c i j : Nat} (hC : bw_has A [(M, mob M r c)]) (hr : r ≤ 8) (hc : c ≤ 8) (hi : i < r) (hj : j < c) : bw_C g (bw_rm 6 1 6) mX9_placeIn [.ref M, .int (nI i), .int (nI j)] A (bw_pi (nI (i * c + j)) A) := by
  refine bw_C.of (by decide) (Nat.le_of_ble_eq_true rfl) rfl ?_
  refine bw_iload_n 1 dX9_placeIn_0 rfl rfl ?_
  refine bw_if_lt 24 4 dX9_placeIn_1 rfl rfl (fun c1 => ?_) (fun c1 => ?_)
  · exact absurd c1 (nI_pos (by omega))
  · refine bw_iload_n 5 dX9_placeIn_4 rfl rfl ?_
    refine bw_aload_n 6 dX9_placeIn_5 rfl rfl ?_
    refine bw_get 9 dX9_placeIn_6 rfl lX9_185 (hC.at 0 rfl) rfl ?_
    refine bw_icmp_ge 24 12 dX9_placeIn_9 rfl rfl (fun c9 => ?_) (fun c9 => ?_)
    · exact absurd c9 (nI_ge hi (by omega))
    · refine bw_iload_n 13 dX9_placeIn_12 rfl rfl ?_
      refine bw_if_lt 24 16 dX9_placeIn_13 rfl rfl (fun c13 => ?_) (fun c13 => ?_)
      · exact absurd c13 (nI_pos (by omega))
      · refine bw_iload_n 17 dX9_placeIn_16 rfl rfl ?_
        refine bw_aload_n 18 dX9_placeIn_17 rfl rfl ?_
        refine bw_get 21 dX9_placeIn_18 rfl lX9_188 (hC.at 0 rfl) rfl ?_
        refine bw_icmp_lt 35 24 dX9_placeIn_21 rfl rfl (fun c21 => ?_) (fun c21 => ?_)
        · refine bw_iload_n 36 dX9_placeIn_35 rfl rfl ?_
          refine bw_aload_n 37 dX9_placeIn_36 rfl rfl ?_
          refine bw_get 40 dX9_placeIn_37 rfl lX9_188 (hC.at 0 rfl) rfl ?_
          refine bw_imul 41 dX9_placeIn_40 rfl ?_
          refine bw_eqi (pk_mul i c) ?_
          refine bw_iload_n 42 dX9_placeIn_41 rfl rfl ?_
          refine bw_iadd 43 dX9_placeIn_42 rfl ?_
          refine bw_eqi (nI_add _ _) ?_
          refine bw_iret dX9_placeIn_43 rfl (Nat.le_of_ble_eq_true rfl) (Nat.le_of_ble_eq_true rfl) ?_
          exact ⟨rfl, rfl⟩
        · exact absurd (nI_lt hj (by omega)) c21
set_option maxHeartbeats 4000000 in
theorem c9_plX (g : bw_G) {A : bw_H} {M r c : Nat} {a b : Int32} (hC : bw_has A [(M, mob M r c)]) (h : ¬ (kI r a ∧ kI c b)) : bw_C g (bw_rm 6 1 6) mX9_placeIn [.ref M, .int a, .int b] A (bw_pz eIO A) := by
  refine bw_C.of (by decide) (Nat.le_of_ble_eq_true rfl) rfl ?_
  refine bw_iload_n 1 dX9_placeIn_0 rfl rfl ?_
  refine bw_if_lt 24 4 dX9_placeIn_1 rfl rfl (fun c1 => ?_) (fun c1 => ?_)
  · refine bw_throwW "no such row or column" dX9_placeIn_24 dX9_placeIn_27 dX9_placeIn_28 dX9_placeIn_31 dX9_placeIn_34 tX9_143 (by decide +kernel) rfl (Nat.le_of_ble_eq_true rfl) (Nat.le_of_ble_eq_true rfl) (Nat.le_of_ble_eq_true rfl) (Nat.le_of_ble_eq_true rfl) ?_
    exact fun m hm => ⟨rfl, m, hm, rfl⟩
  · refine bw_iload_n 5 dX9_placeIn_4 rfl rfl ?_
    refine bw_aload_n 6 dX9_placeIn_5 rfl rfl ?_
    refine bw_get 9 dX9_placeIn_6 rfl lX9_185 (hC.at 0 rfl) rfl ?_
    refine bw_icmp_ge 24 12 dX9_placeIn_9 rfl rfl (fun c9 => ?_) (fun c9 => ?_)
    · refine bw_throwW "no such row or column" dX9_placeIn_24 dX9_placeIn_27 dX9_placeIn_28 dX9_placeIn_31 dX9_placeIn_34 tX9_143 (by decide +kernel) rfl (Nat.le_of_ble_eq_true rfl) (Nat.le_of_ble_eq_true rfl) (Nat.le_of_ble_eq_true rfl) (Nat.le_of_ble_eq_true rfl) ?_
      exact fun m hm => ⟨rfl, m, hm, rfl⟩
    · refine bw_iload_n 13 dX9_placeIn_12 rfl rfl ?_
      refine bw_if_lt 24 16 dX9_placeIn_13 rfl rfl (fun c13 => ?_) (fun c13 => ?_)
      · refine bw_throwW "no such row or column" dX9_placeIn_24 dX9_placeIn_27 dX9_placeIn_28 dX9_placeIn_31 dX9_placeIn_34 tX9_143 (by decide +kernel) rfl (Nat.le_of_ble_eq_true rfl) (Nat.le_of_ble_eq_true rfl) (Nat.le_of_ble_eq_true rfl) (Nat.le_of_ble_eq_true rfl) ?_
        exact fun m hm => ⟨rfl, m, hm, rfl⟩
      · refine bw_iload_n 17 dX9_placeIn_16 rfl rfl ?_
        refine bw_aload_n 18 dX9_placeIn_17 rfl rfl ?_
        refine bw_get 21 dX9_placeIn_18 rfl lX9_188 (hC.at 0 rfl) rfl ?_
        refine bw_icmp_lt 35 24 dX9_placeIn_21 rfl rfl (fun c21 => ?_) (fun c21 => ?_)
        · exact absurd ⟨⟨c1, Int32.not_le.mp c9⟩, ⟨c13, c21⟩⟩ h
        · refine bw_throwW "no such row or column" dX9_placeIn_24 dX9_placeIn_27 dX9_placeIn_28 dX9_placeIn_31 dX9_placeIn_34 tX9_143 (by decide +kernel) rfl (Nat.le_of_ble_eq_true rfl) (Nat.le_of_ble_eq_true rfl) (Nat.le_of_ble_eq_true rfl) (Nat.le_of_ble_eq_true rfl) ?_
          exact fun m hm => ⟨rfl, m, hm, rfl⟩
