/-! arrays of members; heaps that grow; the class's Field: rows, its constructor -/
theorem bw_up_up {A : bw_H} {a : Nat} {e e' : va_E} : bw_up (bw_up A a e) a e' = bw_up A a e' := by
  refine Prod.ext rfl (funext fun b => ?_)
  show (if b = a then some e' else if b = a then some e else A.2 b) = if b = a then some e' else A.2 b
  split <;> rfl
theorem bw_up_id {A : bw_H} {a : Nat} {e : va_E} (h : A.2 a = some e) : bw_up A a e = A := by
  refine Prod.ext rfl (funext fun b => ?_)
  show (if b = a then some e else A.2 b) = A.2 b
  split
  · rename_i hb
    rw [hb, h]
  · rfl
theorem bw_up_cm {A : bw_H} {a b : Nat} {e e' : va_E} (h : a ≠ b) : bw_up (bw_up A a e) b e' = bw_up (bw_up A b e') a e := by
  refine Prod.ext rfl (funext fun c => ?_)
  show (if c = b then some e' else if c = a then some e else A.2 c) = if c = a then some e else if c = b then some e' else A.2 c
  by_cases h1 : c = a
  · subst h1
    rw [if_neg h, if_pos rfl, if_pos rfl]
  · rw [if_neg h1, if_neg h1]
/-- an array of small numbers -/
abbrev bw_an (g : bw_G) (n : Nat) (F : Nat → Nat) : va_E := bw_ai g n (fun i => nI (F i))
theorem an_at (F : Nat → Nat) {j : Nat} (hj : j < 2 ^ 31) : nI (F (nI j).toNatClampNeg) = nI (F j) := by rw [nI_clamp hj]
theorem an_upd (F : Nat → Nat) {j v : Nat} (hj : j < 2 ^ 31) : upd (fun i => nI (F i)) (nI j).toNatClampNeg (nI v) = fun i => nI (if i = j then v else F i) := by
  funext i
  unfold upd
  rw [nI_clamp hj]
  split <;> rfl
theorem an_updE {F G : Nat → Nat} {j v : Nat} (hj : j < 2 ^ 31) (h : (fun i => if i = j then v else F i) = G) : upd (fun i => nI (F i)) (nI j).toNatClampNeg (nI v) = fun i => nI (G i) := by
  rw [an_upd F hj, ← h]
/-- nothing but L has changed, new cells apart -/
def bw_ss' (L : List Nat) (A A' : bw_H) : Prop := ∀ b : Nat, b ∉ L → A'.2 b = A.2 b
theorem bw_ss'.rf {L : List Nat} {A : bw_H} : bw_ss' L A A := fun _ _ => rfl
theorem bw_ss'.upd {L : List Nat} {A0 A A' : bw_H} {a : Nat} {e : va_E} (h : bw_ss' L A0 A) (hA : A' = bw_up A a e) (ha : a ∈ L) : bw_ss' L A0 A' := by
  subst hA
  intro b hb
  rw [bw_up_ne (a := a) (b := b) (fun he => hb (by rw [he]; exact ha))]
  exact h b hb
theorem bw_ss'.nwd {L : List Nat} {A0 A A' : bw_H} {a : Nat} {e : va_E} (h : bw_ss' L A0 A) (hA : A' = bw_nw A e) (hz : A.1 = a) (ha : a ∈ L) : bw_ss' L A0 A' := by
  subst hA
  intro b hb
  rw [bw_nw_ne (b := b) (fun he => hb (by rw [he, hz]; exact ha))]
  exact h b hb
theorem bw_has.nwda {A A' : bw_H} {ws : List (Nat × va_E)} {e : va_E} {a : Nat} (h : bw_has A ws) (hok : ∀ (a : Nat) (e : va_E), A.2 a = some e → a < A.1) (hz : A.1 = a) (hA : A' = bw_nw A e) : bw_has A' (ws ++ [(a, e)]) := by
  subst hz
  exact h.nwd hok hA
section BWN
variable {g : bw_G} {R : Room} {k : bw_M} {Q : bw_O → bw_H → Prop} {cu su pc : Nat} {lv : List (Nat × Value)} {st : List Value} {A : bw_H}
theorem bw_newiU {n : Int32} {N a : Nat} (pc' : Nat) (hd : decode k.2.1 pc = .ok (.newarray .int, 2)) (hp : pc + 2 = pc') (hw : Cond.arrayClass .int ∈ bw_uw) (hn : ¬ n < 0) (hN : n.toNatClampNeg = N) (hb : N ≤ 134217728) (hc : cu + 1 ≤ R.cells) (hsl : su + N ≤ R.slots) (ha : A.1 = a)
    (kk : ∀ A' : bw_H, A' = bw_nw A (bw_ai g N (fun _ => 0)) → bw_W g R k Q (cu + 1) (su + N) pc' lv (.ref a :: st) A') : bw_W g R k Q cu su pc lv (.int n :: st) A := by
  subst ha
  exact bw_newi pc' hd hp hw hn hN hb hc hsl (kk _ rfl)
theorem bw_newlU {n : Int32} {N a : Nat} (pc' : Nat) (hd : decode k.2.1 pc = .ok (.newarray .long, 2)) (hp : pc + 2 = pc') (hw : Cond.arrayClass .long ∈ bw_uw) (hn : ¬ n < 0) (hN : n.toNatClampNeg = N) (hb : N ≤ 67108864) (hc : cu + 1 ≤ R.cells) (hsl : su + N ≤ R.slots) (ha : A.1 = a)
    (kk : ∀ A' : bw_H, A' = bw_nw A (bw_al g N (fun _ => 0)) → bw_W g R k Q (cu + 1) (su + N) pc' lv (.ref a :: st) A') : bw_W g R k Q cu su pc lv (.int n :: st) A := by
  subst ha
  exact bw_newl pc' hd hp hw hn hN hb hc hsl (kk _ rfl)
theorem bw_newqU {n : Int32} {N i t a : Nat} {C : String} (pc' : Nat) (hd : decode k.2.1 pc = .ok (.anewarray i, 3)) (hp : pc + 3 = pc') (ht : (bw_ty g.2.1)[t]? = some (g.2.1 t, .object C)) (hw : C = "ByteFields$Matrix" ∨ C = "ByteFields$Polynomial") (hlk : Cond.classLink k.1.cls i C ∈ bw_uw) (hn : ¬ n < 0) (hN : n.toNatClampNeg = N) (hb : N ≤ 134217728) (hc : cu + 1 ≤ R.cells) (hsl : su + N ≤ R.slots) (ha : A.1 = a)
    (kk : ∀ A' : bw_H, A' = bw_nw A (bw_aq g t N (fun _ => none)) → bw_W g R k Q (cu + 1) (su + N) pc' lv (.ref a :: st) A') : bw_W g R k Q cu su pc lv (.int n :: st) A := by
  subst ha
  exact bw_newq pc' hd hp ht hw hlk hn hN hb hc hsl (kk _ rfl)
theorem bw_newU {i ci N a : Nat} {fs : List Value} (pc' : Nat) (hd : decode k.2.1 pc = .ok (.new i, 3)) (hp : pc + 3 = pc') (hn : bw_nl k.1.cls i ci N fs) (hc : cu + 1 ≤ R.cells) (hsl : su + N ≤ R.slots) (ha : A.1 = a)
    (kk : ∀ A' : bw_H, A' = bw_nw A (.inr (ci, fs)) → bw_W g R k Q (cu + 1) (su + N) pc' lv (.ref a :: st) A') : bw_W g R k Q cu su pc lv st A := by
  subst ha
  exact bw_new pc' hd hp hn hc hsl (kk _ rfl)
end BWN
/-- f, and c times h's from fr on added from at on, count of them -/
def gam (n q : Nat) (f h : Nat → Nat) (at' fr c count : Nat) (i : Nat) : Nat := if at' ≤ i ∧ i < at' + count then f i ^^^ gm n q c (h (fr + (i - at'))) else f i
theorem gam_0 (n q : Nat) (f h : Nat → Nat) (at' fr c : Nat) : gam n q f h at' fr c 0 = f := by
  funext i
  unfold gam
  rw [if_neg (by omega)]
theorem gam_c0 (n q : Nat) (f h : Nat → Nat) (at' fr count : Nat) : gam n q f h at' fr 0 count = f := by
  funext i
  unfold gam
  split
  · rw [gm_0, Nat.xor_zero]
  · rfl
theorem gam_s (n q : Nat) (f h : Nat → Nat) (at' fr c k : Nat) : (fun i => if i = at' + k then f (at' + k) ^^^ gm n q c (h (fr + k)) else gam n q f h at' fr c k i) = gam n q f h at' fr c (k + 1) := by
  funext i
  unfold gam
  by_cases h1 : i = at' + k
  · subst h1
    rw [if_pos rfl, if_pos (by omega), show at' + k - at' = k by omega]
  · rw [if_neg h1]
    by_cases h2 : at' ≤ i ∧ i < at' + k
    · rw [if_pos h2, if_pos (by omega)]
    · rw [if_neg h2, if_neg (by omega)]
theorem gam_at (n q : Nat) (f h : Nat → Nat) (at' fr c k : Nat) : gam n q f h at' fr c k (at' + k) = f (at' + k) := by
  unfold gam
  rw [if_neg (by omega)]
theorem gam_lt {n q : Nat} (hG : GFp n q) {f h : Nat → Nat} (hf : ∀ i, f i < 2 ^ n) {at' fr c count : Nat} (hc : c < 2 ^ n) (i : Nat) : gam n q f h at' fr c count i < 2 ^ n := by
  unfold gam
  split
  · exact xor_lt (hf i) (hG.lt hc)
  · exact hf i
set_option maxHeartbeats 4000000 in
set_option maxRecDepth 100000 in
theorem c3_addMultiple_loop (g : bw_G) {A0 : bw_H} {F X Y n p gg nx ny at' fr c count lc : Nat} {f h : Nat → Nat} (hG : GFg n p gg) (hC0 : bw_has A0 (fcl g n p gg F ++ [(X, bw_an g nx f), (Y, bw_an g ny h)])) (hf : ∀ i, f i < 2 ^ n) (hh : ∀ i, h i < 2 ^ n) (hx : at' + count ≤ nx) (hy : fr + count ≤ ny) (hnx : nx < 2 ^ 30) (hny : ny < 2 ^ 30) (hc : c < 2 ^ n) (hc0 : c ≠ 0) (hlc : lc = glog n (2 ^ n ||| p) gg c) :
    ∀ (r k : Nat), k + r = count → bw_W g (bw_rm 0 0 0) mX3_addMultiple (bw_pv (fun A' => A' = bw_up A0 X (bw_an g nx (gam n (2 ^ n ||| p) f h at' fr c count)))) 0 0 21 [(0, .ref F), (1, .ref X), (2, .int (nI at')), (3, .ref Y), (4, .int (nI fr)), (5, .int (nI count)), (7, .int (nI lc)), (8, .int (nI k))] [] (bw_up A0 X (bw_an g nx (gam n (2 ^ n ||| p) f h at' fr c k))) := by
  have h16 := hG.p16
  have h1 := hG.2.2.1.one
  have hlcl : lc < 2 ^ n - 1 := by rw [hlc]; exact glog_lt hG c
  intro r
  induction r with
  | zero =>
    intro k hk
    have hk : k = count := by omega
    subst hk
    have hC := hC0.up 2 (e := bw_an g nx (gam n (2 ^ n ||| p) f h at' fr c k)) rfl
    refine bw_iload 23 dX3_addMultiple_21 rfl rfl ?_
    refine bw_iload 25 dX3_addMultiple_23 rfl rfl ?_
    refine bw_icmp_ge 101 28 dX3_addMultiple_25 rfl rfl (fun c25 => ?_) (fun c25 => ?_)
    · refine bw_vret dX3_addMultiple_101 rfl (Nat.le_of_ble_eq_true rfl) (Nat.le_of_ble_eq_true rfl) ?_
      exact ⟨rfl, rfl⟩
    · exact absurd (nI_le (by omega) (by omega)) c25
  | succ r ih =>
    intro k hk
    have hC := hC0.up 2 (e := bw_an g nx (gam n (2 ^ n ||| p) f h at' fr c k)) rfl
    have hlm := glog_lt hG (h (fr + k))
    refine bw_iload 23 dX3_addMultiple_21 rfl rfl ?_
    refine bw_iload 25 dX3_addMultiple_23 rfl rfl ?_
    refine bw_icmp_ge 101 28 dX3_addMultiple_25 rfl rfl (fun c25 => ?_) (fun c25 => ?_)
    · exact absurd c25 (nI_ge (by omega) (by omega))
    · skip
      refine bw_aload_n 29 dX3_addMultiple_28 rfl rfl ?_
      refine bw_iload 31 dX3_addMultiple_29 rfl rfl ?_
      refine bw_iload 33 dX3_addMultiple_31 rfl rfl ?_
      refine bw_iadd 34 dX3_addMultiple_33 rfl ?_
      refine bw_eqi (nI_add fr k) ?_
      refine bw_iald 35 dX3_addMultiple_34 rfl (hC.at 3 rfl) (by exact vp_in_nI (by omega) (by omega)) ?_
      refine bw_eqi (an_at h (by omega)) ?_
      refine bw_istore 37 dX3_addMultiple_35 rfl (by decide) ?_
      refine bw_iload 39 dX3_addMultiple_37 rfl rfl ?_
      refine bw_if_eq 95 42 dX3_addMultiple_39 rfl rfl (fun c39 => ?_) (fun c39 => ?_)
      · have h0 : h (fr + k) = 0 := (xn_eq0 (by have := hh (fr + k); omega)).mp c39
        have hS := gam_s n (2 ^ n ||| p) f h at' fr c k
        rw [h0, gm_b0, Nat.xor_zero] at hS
        have hS2 : (fun i => if i = at' + k then f (at' + k) else gam n (2 ^ n ||| p) f h at' fr c k i) = gam n (2 ^ n ||| p) f h at' fr c k := by
          funext i
          split
          · rename_i e
            rw [e, gam_at]
          · rfl
        rw [hS2] at hS
        refine bw_iincN (1) 98 dX3_addMultiple_95 rfl rfl (by decide) (by decide) ?_
        refine bw_goto 21 dX3_addMultiple_98 rfl ?_
        refine bw_loc [(0, .ref F), (1, .ref X), (2, .int (nI at')), (3, .ref Y), (4, .int (nI fr)), (5, .int (nI count)), (7, .int (nI lc)), (8, .int (nI (k + 1)))] ⟨rfl, rfl, rfl, rfl, rfl, rfl, rfl, congrArg (fun x => some (Value.int x)) (nI_1 k), trivial⟩ ?_
        rw [hS]
        exact ih (k + 1) (by omega)
      · have hm0 : h (fr + k) ≠ 0 := fun e => c39 ((xn_eq0 (by have := hh (fr + k); omega)).mpr e)
        have hm := gmul_log hG hc (hh (fr + k)) hc0 hm0
        rw [← hlc] at hm
        refine bw_iload 44 dX3_addMultiple_42 rfl rfl ?_
        refine bw_aload_n 45 dX3_addMultiple_44 rfl rfl ?_
        refine bw_get 48 dX3_addMultiple_45 rfl lX3_33 (hC.at 0 rfl) rfl ?_
        refine bw_iload 50 dX3_addMultiple_48 rfl rfl ?_
        refine bw_iald 51 dX3_addMultiple_50 rfl (hC.at 1 rfl) (by exact vp_in_nI (hh _) (by omega)) ?_
        refine bw_eqi (gtb_at (by have := hh (fr + k); omega)) ?_
        refine bw_ldc 53 dX3_addMultiple_51 kX3_66 rfl ?_
        refine bw_iand 54 dX3_addMultiple_53 rfl ?_
        refine bw_eqi (gtb_log hG (h (fr + k))) ?_
        refine bw_iadd 55 dX3_addMultiple_54 rfl ?_
        refine bw_eqi (nI_add lc (glog n (2 ^ n ||| p) gg (h (fr + k)))) ?_
        refine bw_istore 57 dX3_addMultiple_55 rfl (by decide) ?_
        refine bw_aload_n 58 dX3_addMultiple_57 rfl rfl ?_
        refine bw_iload_n 59 dX3_addMultiple_58 rfl rfl ?_
        refine bw_iload 61 dX3_addMultiple_59 rfl rfl ?_
        refine bw_iadd 62 dX3_addMultiple_61 rfl ?_
        refine bw_eqi (nI_add at' k) ?_
        refine bw_dup2 63 dX3_addMultiple_62 rfl rfl rfl ?_
        refine bw_iald 64 dX3_addMultiple_63 rfl (hC.at 2 rfl) (by exact vp_in_nI (by omega) (by omega)) ?_
        refine bw_eqi ((an_at (gam n (2 ^ n ||| p) f h at' fr c k) (by omega)).trans (congrArg nI (gam_at n (2 ^ n ||| p) f h at' fr c k))) ?_
        refine bw_aload_n 65 dX3_addMultiple_64 rfl rfl ?_
        refine bw_get 68 dX3_addMultiple_65 rfl lX3_33 (hC.at 0 rfl) rfl ?_
        refine bw_iload 70 dX3_addMultiple_68 rfl rfl ?_
        refine bw_aload_n 71 dX3_addMultiple_70 rfl rfl ?_
        refine bw_get 74 dX3_addMultiple_71 rfl lX3_16 (hC.at 0 rfl) rfl ?_
        refine bw_icmp_ge 82 77 dX3_addMultiple_74 rfl rfl (fun c74 => ?_) (fun c74 => ?_)
        · have hge : 2 ^ n - 1 ≤ lc + glog n (2 ^ n ||| p) gg (h (fr + k)) := (nI_leI (by omega) (by omega)).mp c74
          have hm := (gpow_wrap hG hge).trans hm
          have hix : lc + glog n (2 ^ n ||| p) gg (h (fr + k)) - (2 ^ n - 1) < 2 ^ n - 1 := by omega
          refine bw_iload 84 dX3_addMultiple_82 rfl rfl ?_
          refine bw_aload_n 85 dX3_addMultiple_84 rfl rfl ?_
          refine bw_get 88 dX3_addMultiple_85 rfl lX3_16 (hC.at 0 rfl) rfl ?_
          refine bw_isub 89 dX3_addMultiple_88 rfl ?_
          refine bw_eqi (pk_sub hge) ?_
          refine bw_iald 90 dX3_addMultiple_89 rfl (hC.at 1 rfl) (by exact vp_in_nI (by omega) (by omega)) ?_
          refine bw_eqi (gtb_at (by omega)) ?_
          refine bw_bipush (16) 92 dX3_addMultiple_90 (by decide) rfl ?_
          refine bw_iushr 93 dX3_addMultiple_92 rfl ?_
          refine bw_eqi ((gtb_exp hG _ hix).trans (congrArg nI hm)) ?_
          refine bw_ixor 94 dX3_addMultiple_93 rfl ?_
          refine bw_eqi (xn_xor (f (at' + k)) (gm n (2 ^ n ||| p) c (h (fr + k)))) ?_
          refine bw_iastU 95 dX3_addMultiple_94 rfl (hC.at 2 rfl) (by exact vp_in_nI (by omega) (by omega)) (fun A hU => ?_)
          have hC := hC.upd 2 rfl hU
          refine bw_iincN (1) 98 dX3_addMultiple_95 rfl rfl (by decide) (by decide) ?_
          refine bw_goto 21 dX3_addMultiple_98 rfl ?_
          refine bw_loc [(0, .ref F), (1, .ref X), (2, .int (nI at')), (3, .ref Y), (4, .int (nI fr)), (5, .int (nI count)), (7, .int (nI lc)), (8, .int (nI (k + 1)))] ⟨rfl, rfl, rfl, rfl, rfl, rfl, rfl, congrArg (fun x => some (Value.int x)) (nI_1 k), trivial⟩ ?_
          rw [an_updE (by omega) (gam_s n (2 ^ n ||| p) f h at' fr c k)] at hU
          rw [hU, bw_up_up]
          exact ih (k + 1) (by omega)
        · have hix : lc + glog n (2 ^ n ||| p) gg (h (fr + k)) < 2 ^ n - 1 := Nat.not_le.mp (fun e => c74 ((nI_leI (by omega) (by omega)).mpr e))
          refine bw_iload 79 dX3_addMultiple_77 rfl rfl ?_
          refine bw_goto 89 dX3_addMultiple_79 rfl ?_
          refine bw_iald 90 dX3_addMultiple_89 rfl (hC.at 1 rfl) (by exact vp_in_nI (by omega) (by omega)) ?_
          refine bw_eqi (gtb_at (by omega)) ?_
          refine bw_bipush (16) 92 dX3_addMultiple_90 (by decide) rfl ?_
          refine bw_iushr 93 dX3_addMultiple_92 rfl ?_
          refine bw_eqi ((gtb_exp hG _ hix).trans (congrArg nI hm)) ?_
          refine bw_ixor 94 dX3_addMultiple_93 rfl ?_
          refine bw_eqi (xn_xor (f (at' + k)) (gm n (2 ^ n ||| p) c (h (fr + k)))) ?_
          refine bw_iastU 95 dX3_addMultiple_94 rfl (hC.at 2 rfl) (by exact vp_in_nI (by omega) (by omega)) (fun A hU => ?_)
          have hC := hC.upd 2 rfl hU
          refine bw_iincN (1) 98 dX3_addMultiple_95 rfl rfl (by decide) (by decide) ?_
          refine bw_goto 21 dX3_addMultiple_98 rfl ?_
          refine bw_loc [(0, .ref F), (1, .ref X), (2, .int (nI at')), (3, .ref Y), (4, .int (nI fr)), (5, .int (nI count)), (7, .int (nI lc)), (8, .int (nI (k + 1)))] ⟨rfl, rfl, rfl, rfl, rfl, rfl, rfl, congrArg (fun x => some (Value.int x)) (nI_1 k), trivial⟩ ?_
          rw [an_updE (by omega) (gam_s n (2 ^ n ||| p) f h at' fr c k)] at hU
          rw [hU, bw_up_up]
          exact ih (k + 1) (by omega)
set_option maxHeartbeats 4000000 in
set_option maxRecDepth 100000 in
theorem c3_addMultiple (g : bw_G) {A : bw_H} {F X Y n p gg nx ny at' fr c count : Nat} {f h : Nat → Nat} (hG : GFg n p gg) (hC : bw_has A (fcl g n p gg F ++ [(X, bw_an g nx f), (Y, bw_an g ny h)])) (hf : ∀ i, f i < 2 ^ n) (hh : ∀ i, h i < 2 ^ n) (hx : at' + count ≤ nx) (hy : fr + count ≤ ny) (hnx : nx < 2 ^ 30) (hny : ny < 2 ^ 30) (hc : c < 2 ^ n) :
    bw_C g (bw_rm 0 0 0) mX3_addMultiple [.ref F, .ref X, .int (nI at'), .ref Y, .int (nI fr), .int (nI count), .int (nI c)] A (bw_pv (fun A' => A' = bw_up A X (bw_an g nx (gam n (2 ^ n ||| p) f h at' fr c count)))) := by
  have h16 := hG.p16
  have h1 := hG.2.2.1.one
  refine bw_C.of (by decide) (Nat.le_of_ble_eq_true rfl) rfl ?_
  refine bw_iload 2 dX3_addMultiple_0 rfl rfl ?_
  refine bw_if_ne 6 5 dX3_addMultiple_2 rfl rfl (fun c2 => ?_) (fun c2 => ?_)
  · have hc0 : c ≠ 0 := fun e => c2 ((xn_eq0 (by omega)).mpr e)
    refine bw_aload_n 7 dX3_addMultiple_6 rfl rfl ?_
    refine bw_get 10 dX3_addMultiple_7 rfl lX3_33 (hC.at 0 rfl) rfl ?_
    refine bw_iload 12 dX3_addMultiple_10 rfl rfl ?_
    refine bw_iald 13 dX3_addMultiple_12 rfl (hC.at 1 rfl) (by exact vp_in_nI hc (by omega)) ?_
    refine bw_eqi (gtb_at (by omega)) ?_
    refine bw_ldc 15 dX3_addMultiple_13 kX3_66 rfl ?_
    refine bw_iand 16 dX3_addMultiple_15 rfl ?_
    refine bw_eqi (gtb_log hG c) ?_
    refine bw_istore 18 dX3_addMultiple_16 rfl (by decide) ?_
    refine bw_iconst (0) 19 dX3_addMultiple_18 (by decide) rfl ?_
    refine bw_istore 21 dX3_addMultiple_19 rfl (by decide) ?_
    refine bw_loc [(0, .ref F), (1, .ref X), (2, .int (nI at')), (3, .ref Y), (4, .int (nI fr)), (5, .int (nI count)), (7, .int (nI (glog n (2 ^ n ||| p) gg c))), (8, .int (nI 0))] ⟨rfl, rfl, rfl, rfl, rfl, rfl, rfl, rfl, trivial⟩ ?_
    have hA : A = bw_up A X (bw_an g nx (gam n (2 ^ n ||| p) f h at' fr c 0)) := by rw [gam_0]; exact (bw_up_id (hC.at 2 rfl)).symm
    have hgo := c3_addMultiple_loop g hG hC hf hh hx hy hnx hny hc hc0 rfl count 0 (by omega)
    rw [← hA] at hgo
    exact hgo
  · have h0 : c = 0 := (xn_eq0 (by omega)).mp c2
    refine bw_vret dX3_addMultiple_5 rfl (Nat.le_of_ble_eq_true rfl) (Nat.le_of_ble_eq_true rfl) ?_
    subst h0
    exact ⟨rfl, by rw [gam_c0]; exact (bw_up_id (hC.at 2 rfl)).symm⟩
/-- the first count of f by c -/
def gsc (n q : Nat) (f : Nat → Nat) (c count : Nat) (i : Nat) : Nat := if i < count then gm n q (f i) c else f i
theorem gsc_0 (n q : Nat) (f : Nat → Nat) (c : Nat) : gsc n q f c 0 = f := by
  funext i
  unfold gsc
  rw [if_neg (by omega)]
theorem gsc_s (n q : Nat) (f : Nat → Nat) (c k : Nat) : (fun i => if i = k then gm n q (f k) c else gsc n q f c k i) = gsc n q f c (k + 1) := by
  funext i
  unfold gsc
  by_cases h1 : i = k
  · subst h1
    rw [if_pos rfl, if_pos (by omega)]
  · rw [if_neg h1]
    by_cases h2 : i < k
    · rw [if_pos h2, if_pos (by omega)]
    · rw [if_neg h2, if_neg (by omega)]
theorem gsc_at (n q : Nat) (f : Nat → Nat) (c k : Nat) : gsc n q f c k k = f k := by
  unfold gsc
  rw [if_neg (by omega)]
theorem gsc_lt {n q : Nat} (hG : GFp n q) {f : Nat → Nat} (hf : ∀ i, f i < 2 ^ n) (c count i : Nat) : gsc n q f c count i < 2 ^ n := by
  unfold gsc
  split
  · exact hG.lt (hf i)
  · exact hf i
set_option maxHeartbeats 4000000 in
set_option maxRecDepth 100000 in
theorem c3_scale_loop (g : bw_G) {A0 : bw_H} {F X n p gg nx c count : Nat} {f : Nat → Nat} (hG : GFg n p gg) (hC0 : bw_has A0 (fcl g n p gg F ++ [(X, bw_an g nx f)])) (hf : ∀ i, f i < 2 ^ n) (hx : count ≤ nx) (hnx : nx < 2 ^ 30) (hc : c < 2 ^ n) :
    ∀ (r k : Nat), k + r = count → bw_W g (bw_rm 1 0 0) mX3_scale (bw_pv (fun A' => A' = bw_up A0 X (bw_an g nx (gsc n (2 ^ n ||| p) f c count)))) 0 0 3 [(0, .ref F), (1, .ref X), (2, .int (nI count)), (3, .int (nI c)), (4, .int (nI k))] [] (bw_up A0 X (bw_an g nx (gsc n (2 ^ n ||| p) f c k))) := by
  intro r
  induction r with
  | zero =>
    intro k hk
    have hk : k = count := by omega
    subst hk
    have hC := hC0.up 2 (e := bw_an g nx (gsc n (2 ^ n ||| p) f c k)) rfl
    refine bw_iload 5 dX3_scale_3 rfl rfl ?_
    refine bw_iload_n 6 dX3_scale_5 rfl rfl ?_
    refine bw_icmp_ge 28 9 dX3_scale_6 rfl rfl (fun c6 => ?_) (fun c6 => ?_)
    · refine bw_vret dX3_scale_28 rfl (Nat.le_of_ble_eq_true rfl) (Nat.le_of_ble_eq_true rfl) ?_
      exact ⟨rfl, rfl⟩
    · exact absurd (nI_le (by omega) (by omega)) c6
  | succ r ih =>
    intro k hk
    have hC := hC0.up 2 (e := bw_an g nx (gsc n (2 ^ n ||| p) f c k)) rfl
    refine bw_iload 5 dX3_scale_3 rfl rfl ?_
    refine bw_iload_n 6 dX3_scale_5 rfl rfl ?_
    refine bw_icmp_ge 28 9 dX3_scale_6 rfl rfl (fun c6 => ?_) (fun c6 => ?_)
    · exact absurd c6 (nI_ge (by omega) (by omega))
    · skip
      refine bw_aload_n 10 dX3_scale_9 rfl rfl ?_
      refine bw_iload 12 dX3_scale_10 rfl rfl ?_
      refine bw_aload_n 13 dX3_scale_12 rfl rfl ?_
      refine bw_aload_n 14 dX3_scale_13 rfl rfl ?_
      refine bw_iload 16 dX3_scale_14 rfl rfl ?_
      refine bw_iald 17 dX3_scale_16 rfl (hC.at 2 rfl) (by exact vp_in_nI (by omega) (by omega)) ?_
      refine bw_eqi ((an_at (gsc n (2 ^ n ||| p) f c k) (by omega)).trans (congrArg nI (gsc_at n (2 ^ n ||| p) f c k))) ?_
      refine bw_iload_n 18 dX3_scale_17 rfl rfl ?_
      refine bw_cVi 21 dX3_scale_18 rfl vX3_70 (c3_mul g hG (hC.sub [0, 1] (by decide) rfl) (hf k) hc) (hC.at 0 rfl) rfl rfl (Nat.le_of_ble_eq_true rfl) ⟨(Nat.le_of_ble_eq_true rfl), (Nat.le_of_ble_eq_true rfl)⟩ (Nat.le_of_ble_eq_true rfl) (Nat.le_of_ble_eq_true rfl) ?_
      refine bw_iastU 22 dX3_scale_21 rfl (hC.at 2 rfl) (by exact vp_in_nI (by omega) (by omega)) (fun A hU => ?_)
      have hC := hC.upd 2 rfl hU
      refine bw_iincN (1) 25 dX3_scale_22 rfl rfl (by decide) (by decide) ?_
      refine bw_goto 3 dX3_scale_25 rfl ?_
      refine bw_loc [(0, .ref F), (1, .ref X), (2, .int (nI count)), (3, .int (nI c)), (4, .int (nI (k + 1)))] ⟨rfl, rfl, rfl, rfl, congrArg (fun x => some (Value.int x)) (nI_1 k), trivial⟩ ?_
      rw [an_updE (by omega) (gsc_s n (2 ^ n ||| p) f c k)] at hU
      rw [hU, bw_up_up]
      exact ih (k + 1) (by omega)
set_option maxHeartbeats 4000000 in
set_option maxRecDepth 100000 in
theorem c3_scale (g : bw_G) {A : bw_H} {F X n p gg nx c count : Nat} {f : Nat → Nat} (hG : GFg n p gg) (hC : bw_has A (fcl g n p gg F ++ [(X, bw_an g nx f)])) (hf : ∀ i, f i < 2 ^ n) (hx : count ≤ nx) (hnx : nx < 2 ^ 30) (hc : c < 2 ^ n) :
    bw_C g (bw_rm 1 0 0) mX3_scale [.ref F, .ref X, .int (nI count), .int (nI c)] A (bw_pv (fun A' => A' = bw_up A X (bw_an g nx (gsc n (2 ^ n ||| p) f c count)))) := by
  refine bw_C.of (by decide) (Nat.le_of_ble_eq_true rfl) rfl ?_
  refine bw_iconst (0) 1 dX3_scale_0 (by decide) rfl ?_
  refine bw_istore 3 dX3_scale_1 rfl (by decide) ?_
  refine bw_loc [(0, .ref F), (1, .ref X), (2, .int (nI count)), (3, .int (nI c)), (4, .int (nI 0))] ⟨rfl, rfl, rfl, rfl, rfl, trivial⟩ ?_
  have hA : A = bw_up A X (bw_an g nx (gsc n (2 ^ n ||| p) f c 0)) := by rw [gsc_0]; exact (bw_up_id (hC.at 2 rfl)).symm
  have hgo := c3_scale_loop g hG hC hf hx hnx hc count 0 (by omega)
  rw [← hA] at hgo
  exact hgo
