/-! the law's loop; there is a polynomial that doesn't split, and a generator -/
theorem sub5 {L i : Nat} (hL : L ≤ 2562) (hi : i ≤ 2567) (h2 : 2 ≤ i) : nI L - 5 < nI i ↔ ¬ i + 5 ≤ L := by
  by_cases h5 : 5 ≤ L
  · rw [show nI L - 5 = nI (L - 5) from nI_sb h5, nI_ltI (by omega) (by omega)]
    omega
  · constructor
    · intro _; omega
    · intro _
      have h0 : nI L - 5 < 0 := by
        have : L = 0 ∨ L = 1 ∨ L = 2 ∨ L = 3 ∨ L = 4 := by omega
        rcases this with rfl | rfl | rfl | rfl | rfl <;> decide
      exact Int32.lt_of_lt_of_le h0 (nI_pos' (by omega))
set_option maxHeartbeats 4000000 in
theorem law_loop (g : bw_G) {R : Room} {Q : bw_O → bw_H → Prop} {x M n p gg : Nat} (hG : GFg n p gg) (hxM : x + 57 + 2 * n ≤ M) (hfr : 10 ≤ R.frames) (hlo : 1200 ≤ R.locals) (hS : g.2.2.2.2.2.1 ≤ 2562) (hQ : ∀ A : bw_H, Q (.inl (some (.int 1))) A) :
    ∀ (d i cu su th : Nat) (A : bw_H), 2 ≤ i → i ≤ 2567 → g.2.2.2.2.2.1 ≤ i + 5 * d → cu + 20 * d ≤ R.cells → su + 200 * d ≤ R.slots → LI g x M n p gg th A → bw_W g R mL_law Q cu su 43 (lvL g x M i) [] A := by
  intro d
  induction d with
  | zero =>
    intro i cu su th A h2 hi hd hcu hsu hL
    refine bw_iload 45 dL_law_43 rfl rfl ?_
    refine bw_aload_n 46 dL_law_45 rfl rfl ?_
    refine bw_slen 47 dL_law_46 rfl ?_
    refine bw_iconst (5) 48 dL_law_47 (by decide) rfl ?_
    refine bw_isub 49 dL_law_48 rfl ?_
    refine bw_icmp_gt 2505 52 dL_law_49 rfl rfl (fun _ => ?_) (fun c => absurd ((sub5 hS hi h2).mpr (by omega)) c)
    refine bw_iconst (1) 2506 dL_law_2505 (by decide) rfl ?_
    exact bw_zret dL_law_2506 rfl (Or.inr rfl) (by omega) (by omega) (hQ A)
  | succ d ih =>
    intro i cu su th A h2 hi hd hcu hsu hL
    refine bw_iload 45 dL_law_43 rfl rfl ?_
    refine bw_aload_n 46 dL_law_45 rfl rfl ?_
    refine bw_slen 47 dL_law_46 rfl ?_
    refine bw_iconst (5) 48 dL_law_47 (by decide) rfl ?_
    refine bw_isub 49 dL_law_48 rfl ?_
    refine bw_icmp_gt 2505 52 dL_law_49 rfl rfl (fun _ => ?_) (fun c => ?_)
    · refine bw_iconst (1) 2506 dL_law_2505 (by decide) rfl ?_
      exact bw_zret dL_law_2506 rfl (Or.inr rfl) (by omega) (by omega) (hQ A)
    · have hin : i + 5 ≤ g.2.2.2.2.2.1 := Classical.byContradiction (fun h => c ((sub5 hS hi h2).mpr h))
      have K : ∀ (A' : bw_H) (th' : Nat), LI g x M n p gg th' A' → bw_W g R mL_law Q (cu + 20) (su + 200) 2499 (lvL g x M i) [] A' := by
        intro A' th' hL'
        refine bw_iincN (5) 2502 dL_law_2499 rfl rfl (by decide) (by decide) ?_
        refine bw_goto 43 dL_law_2502 rfl ?_
        refine bw_loc (lvL g x M (i + 5)) ⟨rfl, rfl, rfl, rfl, congrArg (fun x => some (Value.int x)) (nI_add i 5), trivial⟩ ?_
        exact ih (i + 5) (cu + 20) (su + 200) th' A' (by omega) (by omega) (by omega) (by omega) (by omega) hL'
      refine bw_aload_n 53 dL_law_52 rfl rfl ?_
      refine bw_iload 55 dL_law_53 rfl rfl ?_
      refine bw_sld 56 dL_law_55 rfl (vp_in_nI (by omega) (by omega)) ?_
      refine bw_bipush (63) 58 dL_law_56 (by decide) rfl ?_
      refine bw_iand 59 dL_law_58 rfl ?_
      obtain ⟨j, hj, he⟩ := pk_andE (g.2.2.2.2.2.2 (nI i).toNatClampNeg) (m := 63) 6 (by decide)
      refine bw_eqi he ?_
      have hj : j < 64 := hj
      by_cases h0 : j = 0
      · subst h0
        refine bw_tsIn (off := 165) 224 dL_law_59 (by decide) (by decide) (by decide +kernel) rfl ?_
        exact lc_poly g hG hxM hfr hlo (by omega) (by omega) hin hS hL K
      by_cases h1 : j = 1
      · subst h1
        refine bw_tsIn (off := 178) 237 dL_law_59 (by decide) (by decide) (by decide +kernel) rfl ?_
        exact lc_generator g hG hxM hfr hlo (by omega) (by omega) hin hS hL K
      by_cases h2 : j = 2
      · subst h2
        refine bw_tsIn (off := 191) 250 dL_law_59 (by decide) (by decide) (by decide +kernel) rfl ?_
        exact lc_product g hG hxM hfr hlo (by omega) (by omega) hin hS hL K
      by_cases h3 : j = 3
      · subst h3
        refine bw_tsIn (off := 259) 318 dL_law_59 (by decide) (by decide) (by decide +kernel) rfl ?_
        exact lc_quotient g hG hxM hfr hlo (by omega) (by omega) hin hS hL K
      by_cases h4 : j = 4
      · subst h4
        refine bw_tsIn (off := 327) 386 dL_law_59 (by decide) (by decide) (by decide +kernel) rfl ?_
        exact lc_power g hG hxM hfr hlo (by omega) (by omega) hin hS hL K
      by_cases h5 : j = 5
      · subst h5
        refine bw_tsIn (off := 427) 486 dL_law_59 (by decide) (by decide) (by decide +kernel) rfl ?_
        exact lc_log g hG hxM hfr hlo (by omega) (by omega) hin hS hL K
      by_cases h6 : j = 6
      · subst h6
        refine bw_tsIn (off := 483) 542 dL_law_59 (by decide) (by decide) (by decide +kernel) rfl ?_
        exact lc_order g hG hxM hfr hlo (by omega) (by omega) hin hS hL K
      by_cases h7 : j = 7
      · subst h7
        refine bw_tsIn (off := 539) 598 dL_law_59 (by decide) (by decide) (by decide +kernel) rfl ?_
        exact lc_put g hG hxM hfr hlo (by omega) (by omega) hin hS hL K
      by_cases h8 : j = 8
      · subst h8
        refine bw_tsIn (off := 595) 654 dL_law_59 (by decide) (by decide) (by decide +kernel) rfl ?_
        exact lc_row g hG hxM hfr hlo (by omega) (by omega) hin hS hL K
      by_cases h9 : j = 9
      · subst h9
        refine bw_tsIn (off := 651) 710 dL_law_59 (by decide) (by decide) (by decide +kernel) rfl ?_
        exact lc_drop g hG hxM hfr hlo (by omega) (by omega) hin hS hL K
      by_cases h10 : j = 10
      · subst h10
        refine bw_tsIn (off := 664) 723 dL_law_59 (by decide) (by decide) (by decide +kernel) rfl ?_
        exact lc_matrix g hG hxM hfr hlo (by omega) (by omega) hin hS hL K
      by_cases h11 : j = 11
      · subst h11
        refine bw_tsIn (off := 732) 791 dL_law_59 (by decide) (by decide) (by decide +kernel) rfl ?_
        exact lc_powers g hG hxM hfr hlo (by omega) (by omega) hin hS hL K
      by_cases h12 : j = 12
      · subst h12
        refine bw_tsIn (off := 800) 859 dL_law_59 (by decide) (by decide) (by decide +kernel) rfl ?_
        exact lc_sums g hG hxM hfr hlo (by omega) (by omega) hin hS hL K
      by_cases h13 : j = 13
      · subst h13
        refine bw_tsIn (off := 868) 927 dL_law_59 (by decide) (by decide) (by decide +kernel) rfl ?_
        exact lc_size g hG hxM hfr hlo (by omega) (by omega) hin hS hL K
      by_cases h14 : j = 14
      · subst h14
        refine bw_tsIn (off := 936) 995 dL_law_59 (by decide) (by decide) (by decide +kernel) rfl ?_
        exact lc_cell g hG hxM hfr hlo (by omega) (by omega) hin hS hL K
      by_cases h15 : j = 15
      · subst h15
        refine bw_tsIn (off := 1016) 1075 dL_law_59 (by decide) (by decide) (by decide +kernel) rfl ?_
        exact lc_set g hG hxM hfr hlo (by omega) (by omega) hin hS hL K
      by_cases h16 : j = 16
      · subst h16
        refine bw_tsIn (off := 1108) 1167 dL_law_59 (by decide) (by decide) (by decide +kernel) rfl ?_
        exact lc_times g hG hxM hfr hlo (by omega) (by omega) hin hS hL K
      by_cases h17 : j = 17
      · subst h17
        refine bw_tsIn (off := 1176) 1235 dL_law_59 (by decide) (by decide) (by decide +kernel) rfl ?_
        exact lc_invert g hG hxM hfr hlo (by omega) (by omega) hin hS hL K
      by_cases h18 : j = 18
      · subst h18
        refine bw_tsIn (off := 1232) 1291 dL_law_59 (by decide) (by decide) (by decide +kernel) rfl ?_
        exact lc_rank g hG hxM hfr hlo (by omega) (by omega) hin hS hL K
      by_cases h19 : j = 19
      · subst h19
        refine bw_tsIn (off := 1288) 1347 dL_law_59 (by decide) (by decide) (by decide +kernel) rfl ?_
        exact lc_determinant g hG hxM hfr hlo (by omega) (by omega) hin hS hL K
      by_cases h20 : j = 20
      · subst h20
        refine bw_tsIn (off := 1344) 1403 dL_law_59 (by decide) (by decide) (by decide +kernel) rfl ?_
        exact lc_singular g hG hxM hfr hlo (by omega) (by omega) hin hS hL K
      by_cases h21 : j = 21
      · subst h21
        refine bw_tsIn (off := 1400) 1459 dL_law_59 (by decide) (by decide) (by decide +kernel) rfl ?_
        exact lc_solve g hG hxM hfr hlo (by omega) (by omega) hin hS hL K
      by_cases h22 : j = 22
      · subst h22
        refine bw_tsIn (off := 1456) 1515 dL_law_59 (by decide) (by decide) (by decide +kernel) rfl ?_
        exact lc_polynomial g hG hxM hfr hlo (by omega) (by omega) hin hS hL K
      by_cases h23 : j = 23
      · subst h23
        refine bw_tsIn (off := 1500) 1559 dL_law_59 (by decide) (by decide) (by decide +kernel) rfl ?_
        exact lc_through g hG hxM hfr hlo (by omega) (by omega) hin hS hL K
      by_cases h24 : j = 24
      · subst h24
        refine bw_tsIn (off := 1544) 1603 dL_law_59 (by decide) (by decide) (by decide +kernel) rfl ?_
        exact lc_degree g hG hxM hfr hlo (by omega) (by omega) hin hS hL K
      by_cases h25 : j = 25
      · subst h25
        refine bw_tsIn (off := 1600) 1659 dL_law_59 (by decide) (by decide) (by decide +kernel) rfl ?_
        exact lc_coefficient g hG hxM hfr hlo (by omega) (by omega) hin hS hL K
      by_cases h26 : j = 26
      · subst h26
        refine bw_tsIn (off := 1668) 1727 dL_law_59 (by decide) (by decide) (by decide +kernel) rfl ?_
        exact lc_value g hG hxM hfr hlo (by omega) (by omega) hin hS hL K
      by_cases h27 : j = 27
      · subst h27
        refine bw_tsIn (off := 1736) 1795 dL_law_59 (by decide) (by decide) (by decide +kernel) rfl ?_
        exact lc_plus g hG hxM hfr hlo (by omega) (by omega) hin hS hL K
      by_cases h28 : j = 28
      · subst h28
        refine bw_tsIn (off := 1804) 1863 dL_law_59 (by decide) (by decide) (by decide +kernel) rfl ?_
        exact lc_multiply g hG hxM hfr hlo (by omega) (by omega) hin hS hL K
      by_cases h29 : j = 29
      · subst h29
        refine bw_tsIn (off := 1872) 1931 dL_law_59 (by decide) (by decide) (by decide +kernel) rfl ?_
        exact lc_divide g hG hxM hfr hlo (by omega) (by omega) hin hS hL K
      by_cases h30 : j = 30
      · subst h30
        refine bw_tsIn (off := 1968) 2027 dL_law_59 (by decide) (by decide) (by decide +kernel) rfl ?_
        exact lc_common g hG hxM hfr hlo (by omega) (by omega) hin hS hL K
      by_cases h31 : j = 31
      · subst h31
        refine bw_tsIn (off := 2036) 2095 dL_law_59 (by decide) (by decide) (by decide +kernel) rfl ?_
        exact lc_root g hG hxM hfr hlo (by omega) (by omega) hin hS hL K
      by_cases h32 : j = 32
      · subst h32
        refine bw_tsIn (off := 2104) 2163 dL_law_59 (by decide) (by decide) (by decide +kernel) rfl ?_
        exact lc_often g hG hxM hfr hlo (by omega) (by omega) hin hS hL K
      by_cases h33 : j = 33
      · subst h33
        refine bw_tsIn (off := 2172) 2231 dL_law_59 (by decide) (by decide) (by decide +kernel) rfl ?_
        exact lc_parts g hG hxM hfr hlo (by omega) (by omega) hin hS hL K
      by_cases h34 : j = 34
      · subst h34
        refine bw_tsIn (off := 2240) 2299 dL_law_59 (by decide) (by decide) (by decide +kernel) rfl ?_
        exact lc_span g hG hxM hfr hlo (by omega) (by omega) hin hS hL K
      by_cases h35 : j = 35
      · subst h35
        refine bw_tsIn (off := 2284) 2343 dL_law_59 (by decide) (by decide) (by decide +kernel) rfl ?_
        exact lc_forth g hG hxM hfr hlo (by omega) (by omega) hin hS hL K
      by_cases h36 : j = 36
      · subst h36
        refine bw_tsIn (off := 2340) 2399 dL_law_59 (by decide) (by decide) (by decide +kernel) rfl ?_
        exact lc_back g hG hxM hfr hlo (by omega) (by omega) hin hS hL K
      by_cases h37 : j = 37
      · subst h37
        refine bw_tsIn (off := 2384) 2443 dL_law_59 (by decide) (by decide) (by decide +kernel) rfl ?_
        exact lc_told g hG hxM hfr hlo (by omega) (by omega) hin hS hL K
      refine bw_tsOut 2499 dL_law_59 (Or.inr (by rw [nI_toInt (by omega)]; omega)) rfl ?_
      exact bw_wid (Nat.le_add_right cu 20) (Nat.le_add_right su 200) (K A th hL)
theorem least {P : Nat → Prop} : ∀ (k : Nat), P k → ∃ j, j ≤ k ∧ P j ∧ ∀ i, i < j → ¬ P i
  | 0, h => ⟨0, Nat.le_refl 0, h, fun i hi => absurd hi (Nat.not_lt_zero i)⟩
  | k + 1, h => by
    by_cases hs : ∃ i, i < k + 1 ∧ P i
    · obtain ⟨i, hi, hp⟩ := hs
      obtain ⟨j, h1, h2, h3⟩ := least i hp
      exact ⟨j, by omega, h2, h3⟩
    · exact ⟨k + 1, Nat.le_refl _, h, fun i hi hp => hs ⟨i, hi, hp⟩⟩
termination_by k => k
theorem bpr_dec {p h : Nat} (H : ∀ d, d < 2 ^ h → d < 2 ∨ brest p d ≠ 0) : bpr p h := fun d h1 h2 => (H d h2).elim (fun h => absurd h (by omega)) id
theorem pr_8 : bpr (2 ^ 8 ||| 27) 5 := bpr_dec (by decide +kernel)
theorem pr_16 : bpr (2 ^ 16 ||| 4107) 9 := bpr_dec (by decide +kernel)
/-- the field that is made -/
theorem field_ex (n : Nat) (hn : n = 8 ∨ n = 16) (s : Nat) : ∃ j0 p gg, j0 < 2 ^ n ∧ bpr (2 ^ n ||| ((s % 2 ^ n + j0) % 2 ^ n)) (n / 2 + 1) ∧ (∀ i, i < j0 → ¬ bpr (2 ^ n ||| ((s % 2 ^ n + i) % 2 ^ n)) (n / 2 + 1)) ∧ (s % 2 ^ n + j0) % 2 ^ n = p ∧ GFg n p gg ∧ ∀ b, 2 ≤ b → b < gg → ¬ ggen n (2 ^ n ||| p) b := by
  have hp := Nat.two_pow_pos n
  have hs := Nat.mod_lt s hp
  obtain ⟨c, hc, hb⟩ : ∃ c, c < 2 ^ n ∧ bpr (2 ^ n ||| c) (n / 2 + 1) := by
    rcases hn with rfl | rfl
    · exact ⟨27, by decide, pr_8⟩
    · exact ⟨4107, by decide, pr_16⟩
  have hk : (s % 2 ^ n + (2 ^ n - s % 2 ^ n + c) % 2 ^ n) % 2 ^ n = c := by
    rw [Nat.add_mod_mod, show s % 2 ^ n + (2 ^ n - s % 2 ^ n + c) = c + 2 ^ n by omega, Nat.add_mod_right, Nat.mod_eq_of_lt hc]
  obtain ⟨j0, h1, h2, h3⟩ := least (P := fun j => bpr (2 ^ n ||| ((s % 2 ^ n + j) % 2 ^ n)) (n / 2 + 1)) ((2 ^ n - s % 2 ^ n + c) % 2 ^ n) (by rw [hk]; exact hb)
  have hj0 : j0 < 2 ^ n := Nat.lt_of_le_of_lt h1 (Nat.mod_lt _ hp)
  have hpl : (s % 2 ^ n + j0) % 2 ^ n < 2 ^ n := Nat.mod_lt _ hp
  have hG : GFp n (2 ^ n ||| ((s % 2 ^ n + j0) % 2 ^ n)) := ⟨by omega, by omega, gq_le _ _, gq_lt hpl, h2⟩
  obtain ⟨a, ha2, hal, hag⟩ := gen_ex hG hn
  obtain ⟨gg, g1, g2, g3⟩ := least (P := fun b => 2 ≤ b ∧ ggen n (2 ^ n ||| ((s % 2 ^ n + j0) % 2 ^ n)) b) a ⟨ha2, hag⟩
  exact ⟨j0, _, gg, hj0, h2, h3, rfl, ⟨hn, hpl, hG, g2.1, by omega, g2.2⟩, fun b hb1 hb2 hb3 => g3 b hb2 ⟨hb1, hb3⟩⟩
