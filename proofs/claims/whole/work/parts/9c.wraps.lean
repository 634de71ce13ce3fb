/-! the law's wrappers -/
theorem kl_13 : Cond.classLink RL 13 eIA ∈ bw_uw := bw_in (i := 386) (by decide +kernel) rfl
theorem kc_13 : Cond.castable eIA eIA ∈ bw_fw := List.mem_filter.mpr ⟨List.mem_of_getElem? (i := 397) (by decide +kernel), rfl⟩
theorem kl_18 : Cond.classLink RL 18 eAE ∈ bw_uw := bw_in (i := 470) (by decide +kernel) rfl
theorem kc_18 : Cond.castable eAE eAE ∈ bw_fw := List.mem_filter.mpr ⟨List.mem_of_getElem? (i := 482) (by decide +kernel), rfl⟩
theorem kl_28 : Cond.classLink RL 28 eAI ∈ bw_uw := bw_in (i := 524) (by decide +kernel) rfl
theorem kc_28 : Cond.castable eAI eAI ∈ bw_fw := List.mem_filter.mpr ⟨List.mem_of_getElem? (i := 539) (by decide +kernel), rfl⟩
theorem kl_36 : Cond.classLink RL 36 eUO ∈ bw_uw := bw_in (i := 565) (by decide +kernel) rfl
theorem kc_36 : Cond.castable eUO eUO ∈ bw_fw := List.mem_filter.mpr ⟨List.mem_of_getElem? (i := 572) (by decide +kernel), rfl⟩
theorem kl_41 : Cond.classLink RL 41 eIO ∈ bw_uw := bw_in (i := 589) (by decide +kernel) rfl
theorem kc_41 : Cond.castable eIO eIO ∈ bw_fw := List.mem_filter.mpr ⟨List.mem_of_getElem? (i := 596) (by decide +kernel), rfl⟩
theorem kl_49 : Cond.classLink RL 49 eIS ∈ bw_uw := bw_in (i := 654) (by decide +kernel) rfl
theorem kc_49 : Cond.castable eIS eIS ∈ bw_fw := List.mem_filter.mpr ⟨List.mem_of_getElem? (i := 665) (by decide +kernel), rfl⟩
theorem w_product (g : bw_G) {A : bw_H} {x O k : Nat} {v : Int32} {fs : List Value} {J : bw_H → Prop} {a1 : Int32} {a2 : Int32} (hb : A.2 x = some (.inr (11, fs))) (hk : k ≤ 1) (hJ1 : ∀ (A1 : bw_H) (f : Nat → Int64), J A1 → J (bw_up A1 O (bw_al g 1 f))) (hJ2 : ∀ A1 : bw_H, J A1 → ∃ f, A1.2 O = some (bw_al g 1 f)) (hC : bw_C g (bw_rm 8 20 200) mX9_product [.ref x, .int a1, .int a2] A (fun o A1 => (k = 0 ∧ o = .inl (some (.int v)) ∨ k ≠ 0 ∧ o = .inr (exN [eIA] k)) ∧ J A1)) :
    bw_CH g (bw_rm 9 20 200) mL_product [.ref x, .int a1, .int a2, .ref O] A (bw_pm (fun y A1 => y = nI k ∧ J A1 ∧ (k = 0 → ∃ f, A1.2 O = some (bw_al g 1 f) ∧ f 0 = v.toInt64))) := by
  refine bw_CH.of (by decide) (Nat.le_of_ble_eq_true rfl) ?_
  refine bw_aload_n 1 dL_product_0 rfl rfl ?_
  refine bw_iconst (0) 2 dL_product_1 (by decide) rfl ?_
  refine bw_aload_n 3 dL_product_2 rfl rfl ?_
  refine bw_iload_n 4 dL_product_3 rfl rfl ?_
  refine bw_iload_n 5 dL_product_4 rfl rfl ?_
  refine bw_callV 8 dL_product_5 rfl vL_7 hC hb rfl rfl (Nat.le_of_ble_eq_true rfl) ⟨(Nat.le_of_ble_eq_true rfl), (Nat.le_of_ble_eq_true rfl)⟩ (Nat.le_of_ble_eq_true rfl) (Nat.le_of_ble_eq_true rfl) (fun E A1 h => ?_) (fun v' A1 h => ?_)
  · obtain ⟨⟨h0, h⟩ | ⟨h0, h⟩, hJ⟩ := h
    · cases h
    · have hE := Sum.inr.inj h
      subst hE
      have h1 : k = 1 := by omega
      subst h1
      refine bw_Tcatch [] ⟨0, 10, 13, 13⟩ [] rfl (fun z hz => absurd hz List.not_mem_nil) rfl (by decide) kl_13 kc_13 (fun q => ?_)
      refine bw_astore 15 dL_product_13 rfl (by decide) ?_
      refine bw_iconst (1) 16 dL_product_15 (by decide) rfl ?_
      exact bw_iret dL_product_16 rfl (Nat.le_of_ble_eq_true rfl) (Nat.le_of_ble_eq_true rfl) ⟨_, rfl, rfl, hJ, fun h => absurd h (by decide)⟩
  · obtain ⟨⟨h0, h⟩ | ⟨h0, h⟩, hJ⟩ := h
    · have hv := Sum.inl.inj h
      subst hv
      subst h0
      obtain ⟨f, hf⟩ := hJ2 A1 hJ
      refine bw_i2l 9 dL_product_8 rfl ?_
      refine bw_lastU 10 dL_product_9 rfl hf (vp_in_nI (n := 0) (N := 1) (by decide) (by decide)) (fun A2 hU => ?_)
      refine bw_goto 17 dL_product_10 rfl ?_
      refine bw_iconst (0) 18 dL_product_17 (by decide) rfl ?_
      exact bw_iret dL_product_18 rfl (Nat.le_of_ble_eq_true rfl) (Nat.le_of_ble_eq_true rfl) ⟨_, rfl, rfl, by rw [hU]; exact hJ1 A1 _ hJ, fun _ => ⟨_, by rw [hU]; exact bw_up_eq, rfl⟩⟩
    · cases h
theorem w_quotient (g : bw_G) {A : bw_H} {x O k : Nat} {v : Int32} {fs : List Value} {J : bw_H → Prop} {a1 : Int32} {a2 : Int32} (hb : A.2 x = some (.inr (11, fs))) (hk : k ≤ 2) (hJ1 : ∀ (A1 : bw_H) (f : Nat → Int64), J A1 → J (bw_up A1 O (bw_al g 1 f))) (hJ2 : ∀ A1 : bw_H, J A1 → ∃ f, A1.2 O = some (bw_al g 1 f)) (hC : bw_C g (bw_rm 8 20 200) mX9_quotient [.ref x, .int a1, .int a2] A (fun o A1 => (k = 0 ∧ o = .inl (some (.int v)) ∨ k ≠ 0 ∧ o = .inr (exN [eIA, eAE] k)) ∧ J A1)) :
    bw_CH g (bw_rm 9 20 200) mL_quotient [.ref x, .int a1, .int a2, .ref O] A (bw_pm (fun y A1 => y = nI k ∧ J A1 ∧ (k = 0 → ∃ f, A1.2 O = some (bw_al g 1 f) ∧ f 0 = v.toInt64))) := by
  refine bw_CH.of (by decide) (Nat.le_of_ble_eq_true rfl) ?_
  refine bw_aload_n 1 dL_quotient_0 rfl rfl ?_
  refine bw_iconst (0) 2 dL_quotient_1 (by decide) rfl ?_
  refine bw_aload_n 3 dL_quotient_2 rfl rfl ?_
  refine bw_iload_n 4 dL_quotient_3 rfl rfl ?_
  refine bw_iload_n 5 dL_quotient_4 rfl rfl ?_
  refine bw_callV 8 dL_quotient_5 rfl vL_15 hC hb rfl rfl (Nat.le_of_ble_eq_true rfl) ⟨(Nat.le_of_ble_eq_true rfl), (Nat.le_of_ble_eq_true rfl)⟩ (Nat.le_of_ble_eq_true rfl) (Nat.le_of_ble_eq_true rfl) (fun E A1 h => ?_) (fun v' A1 h => ?_)
  · obtain ⟨⟨h0, h⟩ | ⟨h0, h⟩, hJ⟩ := h
    · cases h
    · have hE := Sum.inr.inj h
      subst hE
      rcases (show k = 1 ∨ k = 2 by omega) with rfl | rfl
      · refine bw_Tcatch [] ⟨0, 10, 13, 13⟩ [⟨0, 10, 17, 18⟩] rfl (fun z hz => absurd hz List.not_mem_nil) rfl (by decide) kl_13 kc_13 (fun q => ?_)
        refine bw_astore 15 dL_quotient_13 rfl (by decide) ?_
        refine bw_iconst (1) 16 dL_quotient_15 (by decide) rfl ?_
        exact bw_iret dL_quotient_16 rfl (Nat.le_of_ble_eq_true rfl) (Nat.le_of_ble_eq_true rfl) ⟨_, rfl, rfl, hJ, fun h => absurd h (by decide)⟩
      · refine bw_Tcatch [⟨0, 10, 13, 13⟩] ⟨0, 10, 17, 18⟩ [] rfl (fun z hz => by rw [List.mem_singleton.mp hz]; exact Or.inr ⟨by decide, _, kl_13, by decide +kernel⟩) rfl (by decide) kl_18 kc_18 (fun q => ?_)
        refine bw_astore 19 dL_quotient_17 rfl (by decide) ?_
        refine bw_iconst (2) 20 dL_quotient_19 (by decide) rfl ?_
        exact bw_iret dL_quotient_20 rfl (Nat.le_of_ble_eq_true rfl) (Nat.le_of_ble_eq_true rfl) ⟨_, rfl, rfl, hJ, fun h => absurd h (by decide)⟩
  · obtain ⟨⟨h0, h⟩ | ⟨h0, h⟩, hJ⟩ := h
    · have hv := Sum.inl.inj h
      subst hv
      subst h0
      obtain ⟨f, hf⟩ := hJ2 A1 hJ
      refine bw_i2l 9 dL_quotient_8 rfl ?_
      refine bw_lastU 10 dL_quotient_9 rfl hf (vp_in_nI (n := 0) (N := 1) (by decide) (by decide)) (fun A2 hU => ?_)
      refine bw_goto 21 dL_quotient_10 rfl ?_
      refine bw_iconst (0) 22 dL_quotient_21 (by decide) rfl ?_
      exact bw_iret dL_quotient_22 rfl (Nat.le_of_ble_eq_true rfl) (Nat.le_of_ble_eq_true rfl) ⟨_, rfl, rfl, by rw [hU]; exact hJ1 A1 _ hJ, fun _ => ⟨_, by rw [hU]; exact bw_up_eq, rfl⟩⟩
    · cases h
theorem w_power (g : bw_G) {A : bw_H} {x O k : Nat} {v : Int32} {fs : List Value} {J : bw_H → Prop} {a1 : Int32} {a2 : Int64} (hb : A.2 x = some (.inr (11, fs))) (hk : k ≤ 2) (hJ1 : ∀ (A1 : bw_H) (f : Nat → Int64), J A1 → J (bw_up A1 O (bw_al g 1 f))) (hJ2 : ∀ A1 : bw_H, J A1 → ∃ f, A1.2 O = some (bw_al g 1 f)) (hC : bw_C g (bw_rm 8 20 200) mX9_power [.ref x, .int a1, .long a2] A (fun o A1 => (k = 0 ∧ o = .inl (some (.int v)) ∨ k ≠ 0 ∧ o = .inr (exN [eIA, eAE] k)) ∧ J A1)) :
    bw_CH g (bw_rm 9 20 200) mL_power [.ref x, .int a1, .long a2, .ref O] A (bw_pm (fun y A1 => y = nI k ∧ J A1 ∧ (k = 0 → ∃ f, A1.2 O = some (bw_al g 1 f) ∧ f 0 = v.toInt64))) := by
  refine bw_CH.of (by decide) (Nat.le_of_ble_eq_true rfl) ?_
  refine bw_aload 2 dL_power_0 rfl rfl ?_
  refine bw_iconst (0) 3 dL_power_2 (by decide) rfl ?_
  refine bw_aload_n 4 dL_power_3 rfl rfl ?_
  refine bw_iload_n 5 dL_power_4 rfl rfl ?_
  refine bw_lload_n 6 dL_power_5 rfl rfl ?_
  refine bw_callV 9 dL_power_6 rfl vL_20 hC hb rfl rfl (Nat.le_of_ble_eq_true rfl) ⟨(Nat.le_of_ble_eq_true rfl), (Nat.le_of_ble_eq_true rfl)⟩ (Nat.le_of_ble_eq_true rfl) (Nat.le_of_ble_eq_true rfl) (fun E A1 h => ?_) (fun v' A1 h => ?_)
  · obtain ⟨⟨h0, h⟩ | ⟨h0, h⟩, hJ⟩ := h
    · cases h
    · have hE := Sum.inr.inj h
      subst hE
      rcases (show k = 1 ∨ k = 2 by omega) with rfl | rfl
      · refine bw_Tcatch [] ⟨0, 11, 14, 13⟩ [⟨0, 11, 18, 18⟩] rfl (fun z hz => absurd hz List.not_mem_nil) rfl (by decide) kl_13 kc_13 (fun q => ?_)
        refine bw_astore 16 dL_power_14 rfl (by decide) ?_
        refine bw_iconst (1) 17 dL_power_16 (by decide) rfl ?_
        exact bw_iret dL_power_17 rfl (Nat.le_of_ble_eq_true rfl) (Nat.le_of_ble_eq_true rfl) ⟨_, rfl, rfl, hJ, fun h => absurd h (by decide)⟩
      · refine bw_Tcatch [⟨0, 11, 14, 13⟩] ⟨0, 11, 18, 18⟩ [] rfl (fun z hz => by rw [List.mem_singleton.mp hz]; exact Or.inr ⟨by decide, _, kl_13, by decide +kernel⟩) rfl (by decide) kl_18 kc_18 (fun q => ?_)
        refine bw_astore 20 dL_power_18 rfl (by decide) ?_
        refine bw_iconst (2) 21 dL_power_20 (by decide) rfl ?_
        exact bw_iret dL_power_21 rfl (Nat.le_of_ble_eq_true rfl) (Nat.le_of_ble_eq_true rfl) ⟨_, rfl, rfl, hJ, fun h => absurd h (by decide)⟩
  · obtain ⟨⟨h0, h⟩ | ⟨h0, h⟩, hJ⟩ := h
    · have hv := Sum.inl.inj h
      subst hv
      subst h0
      obtain ⟨f, hf⟩ := hJ2 A1 hJ
      refine bw_i2l 10 dL_power_9 rfl ?_
      refine bw_lastU 11 dL_power_10 rfl hf (vp_in_nI (n := 0) (N := 1) (by decide) (by decide)) (fun A2 hU => ?_)
      refine bw_goto 22 dL_power_11 rfl ?_
      refine bw_iconst (0) 23 dL_power_22 (by decide) rfl ?_
      exact bw_iret dL_power_23 rfl (Nat.le_of_ble_eq_true rfl) (Nat.le_of_ble_eq_true rfl) ⟨_, rfl, rfl, by rw [hU]; exact hJ1 A1 _ hJ, fun _ => ⟨_, by rw [hU]; exact bw_up_eq, rfl⟩⟩
    · cases h
theorem w_log (g : bw_G) {A : bw_H} {x O k : Nat} {v : Int32} {fs : List Value} {J : bw_H → Prop} {a1 : Int32} (hb : A.2 x = some (.inr (11, fs))) (hk : k ≤ 2) (hJ1 : ∀ (A1 : bw_H) (f : Nat → Int64), J A1 → J (bw_up A1 O (bw_al g 1 f))) (hJ2 : ∀ A1 : bw_H, J A1 → ∃ f, A1.2 O = some (bw_al g 1 f)) (hC : bw_C g (bw_rm 8 20 200) mX9_log [.ref x, .int a1] A (fun o A1 => (k = 0 ∧ o = .inl (some (.int v)) ∨ k ≠ 0 ∧ o = .inr (exN [eIA, eAI] k)) ∧ J A1)) :
    bw_CH g (bw_rm 9 20 200) mL_log [.ref x, .int a1, .ref O] A (bw_pm (fun y A1 => y = nI k ∧ J A1 ∧ (k = 0 → ∃ f, A1.2 O = some (bw_al g 1 f) ∧ f 0 = v.toInt64))) := by
  refine bw_CH.of (by decide) (Nat.le_of_ble_eq_true rfl) ?_
  refine bw_aload_n 1 dL_log_0 rfl rfl ?_
  refine bw_iconst (0) 2 dL_log_1 (by decide) rfl ?_
  refine bw_aload_n 3 dL_log_2 rfl rfl ?_
  refine bw_iload_n 4 dL_log_3 rfl rfl ?_
  refine bw_callV 7 dL_log_4 rfl vL_24 hC hb rfl rfl (Nat.le_of_ble_eq_true rfl) ⟨(Nat.le_of_ble_eq_true rfl), (Nat.le_of_ble_eq_true rfl)⟩ (Nat.le_of_ble_eq_true rfl) (Nat.le_of_ble_eq_true rfl) (fun E A1 h => ?_) (fun v' A1 h => ?_)
  · obtain ⟨⟨h0, h⟩ | ⟨h0, h⟩, hJ⟩ := h
    · cases h
    · have hE := Sum.inr.inj h
      subst hE
      rcases (show k = 1 ∨ k = 2 by omega) with rfl | rfl
      · refine bw_Tcatch [] ⟨0, 9, 12, 13⟩ [⟨0, 9, 15, 28⟩] rfl (fun z hz => absurd hz List.not_mem_nil) rfl (by decide) kl_13 kc_13 (fun q => ?_)
        refine bw_astore_n 13 dL_log_12 rfl (by decide) ?_
        refine bw_iconst (1) 14 dL_log_13 (by decide) rfl ?_
        exact bw_iret dL_log_14 rfl (Nat.le_of_ble_eq_true rfl) (Nat.le_of_ble_eq_true rfl) ⟨_, rfl, rfl, hJ, fun h => absurd h (by decide)⟩
      · refine bw_Tcatch [⟨0, 9, 12, 13⟩] ⟨0, 9, 15, 28⟩ [] rfl (fun z hz => by rw [List.mem_singleton.mp hz]; exact Or.inr ⟨by decide, _, kl_13, by decide +kernel⟩) rfl (by decide) kl_28 kc_28 (fun q => ?_)
        refine bw_astore_n 16 dL_log_15 rfl (by decide) ?_
        refine bw_iconst (2) 17 dL_log_16 (by decide) rfl ?_
        exact bw_iret dL_log_17 rfl (Nat.le_of_ble_eq_true rfl) (Nat.le_of_ble_eq_true rfl) ⟨_, rfl, rfl, hJ, fun h => absurd h (by decide)⟩
  · obtain ⟨⟨h0, h⟩ | ⟨h0, h⟩, hJ⟩ := h
    · have hv := Sum.inl.inj h
      subst hv
      subst h0
      obtain ⟨f, hf⟩ := hJ2 A1 hJ
      refine bw_i2l 8 dL_log_7 rfl ?_
      refine bw_lastU 9 dL_log_8 rfl hf (vp_in_nI (n := 0) (N := 1) (by decide) (by decide)) (fun A2 hU => ?_)
      refine bw_goto 18 dL_log_9 rfl ?_
      refine bw_iconst (0) 19 dL_log_18 (by decide) rfl ?_
      exact bw_iret dL_log_19 rfl (Nat.le_of_ble_eq_true rfl) (Nat.le_of_ble_eq_true rfl) ⟨_, rfl, rfl, by rw [hU]; exact hJ1 A1 _ hJ, fun _ => ⟨_, by rw [hU]; exact bw_up_eq, rfl⟩⟩
    · cases h
theorem w_order (g : bw_G) {A : bw_H} {x O k : Nat} {v : Int32} {fs : List Value} {J : bw_H → Prop} {a1 : Int32} (hb : A.2 x = some (.inr (11, fs))) (hk : k ≤ 1) (hJ1 : ∀ (A1 : bw_H) (f : Nat → Int64), J A1 → J (bw_up A1 O (bw_al g 1 f))) (hJ2 : ∀ A1 : bw_H, J A1 → ∃ f, A1.2 O = some (bw_al g 1 f)) (hC : bw_C g (bw_rm 8 20 200) mX9_order [.ref x, .int a1] A (fun o A1 => (k = 0 ∧ o = .inl (some (.int v)) ∨ k ≠ 0 ∧ o = .inr (exN [eIA] k)) ∧ J A1)) :
    bw_CH g (bw_rm 9 20 200) mL_order [.ref x, .int a1, .ref O] A (bw_pm (fun y A1 => y = nI k ∧ J A1 ∧ (k = 0 → ∃ f, A1.2 O = some (bw_al g 1 f) ∧ f 0 = v.toInt64))) := by
  refine bw_CH.of (by decide) (Nat.le_of_ble_eq_true rfl) ?_
  refine bw_aload_n 1 dL_order_0 rfl rfl ?_
  refine bw_iconst (0) 2 dL_order_1 (by decide) rfl ?_
  refine bw_aload_n 3 dL_order_2 rfl rfl ?_
  refine bw_iload_n 4 dL_order_3 rfl rfl ?_
  refine bw_callV 7 dL_order_4 rfl vL_30 hC hb rfl rfl (Nat.le_of_ble_eq_true rfl) ⟨(Nat.le_of_ble_eq_true rfl), (Nat.le_of_ble_eq_true rfl)⟩ (Nat.le_of_ble_eq_true rfl) (Nat.le_of_ble_eq_true rfl) (fun E A1 h => ?_) (fun v' A1 h => ?_)
  · obtain ⟨⟨h0, h⟩ | ⟨h0, h⟩, hJ⟩ := h
    · cases h
    · have hE := Sum.inr.inj h
      subst hE
      have h1 : k = 1 := by omega
      subst h1
      refine bw_Tcatch [] ⟨0, 9, 12, 13⟩ [] rfl (fun z hz => absurd hz List.not_mem_nil) rfl (by decide) kl_13 kc_13 (fun q => ?_)
      refine bw_astore_n 13 dL_order_12 rfl (by decide) ?_
      refine bw_iconst (1) 14 dL_order_13 (by decide) rfl ?_
      exact bw_iret dL_order_14 rfl (Nat.le_of_ble_eq_true rfl) (Nat.le_of_ble_eq_true rfl) ⟨_, rfl, rfl, hJ, fun h => absurd h (by decide)⟩
  · obtain ⟨⟨h0, h⟩ | ⟨h0, h⟩, hJ⟩ := h
    · have hv := Sum.inl.inj h
      subst hv
      subst h0
      obtain ⟨f, hf⟩ := hJ2 A1 hJ
      refine bw_i2l 8 dL_order_7 rfl ?_
      refine bw_lastU 9 dL_order_8 rfl hf (vp_in_nI (n := 0) (N := 1) (by decide) (by decide)) (fun A2 hU => ?_)
      refine bw_goto 15 dL_order_9 rfl ?_
      refine bw_iconst (0) 16 dL_order_15 (by decide) rfl ?_
      exact bw_iret dL_order_16 rfl (Nat.le_of_ble_eq_true rfl) (Nat.le_of_ble_eq_true rfl) ⟨_, rfl, rfl, by rw [hU]; exact hJ1 A1 _ hJ, fun _ => ⟨_, by rw [hU]; exact bw_up_eq, rfl⟩⟩
    · cases h
theorem w_put (g : bw_G) {A : bw_H} {x O k : Nat} {v : Int32} {fs : List Value} {J : bw_H → Prop} {a1 : Int32} (hb : A.2 x = some (.inr (11, fs))) (hk : k ≤ 2) (hJ1 : ∀ (A1 : bw_H) (f : Nat → Int64), J A1 → J (bw_up A1 O (bw_al g 1 f))) (hJ2 : ∀ A1 : bw_H, J A1 → ∃ f, A1.2 O = some (bw_al g 1 f)) (hC : bw_C g (bw_rm 8 20 200) mX9_put [.ref x, .int a1] A (fun o A1 => (k = 0 ∧ o = .inl (some (.int v)) ∨ k ≠ 0 ∧ o = .inr (exN [eIA, eUO] k)) ∧ J A1)) :
    bw_CH g (bw_rm 9 20 200) mL_put [.ref x, .int a1, .ref O] A (bw_pm (fun y A1 => y = nI k ∧ J A1 ∧ (k = 0 → ∃ f, A1.2 O = some (bw_al g 1 f) ∧ f 0 = v.toInt64))) := by
  refine bw_CH.of (by decide) (Nat.le_of_ble_eq_true rfl) ?_
  refine bw_aload_n 1 dL_put_0 rfl rfl ?_
  refine bw_iconst (0) 2 dL_put_1 (by decide) rfl ?_
  refine bw_aload_n 3 dL_put_2 rfl rfl ?_
  refine bw_iload_n 4 dL_put_3 rfl rfl ?_
  refine bw_callV 7 dL_put_4 rfl vL_33 hC hb rfl rfl (Nat.le_of_ble_eq_true rfl) ⟨(Nat.le_of_ble_eq_true rfl), (Nat.le_of_ble_eq_true rfl)⟩ (Nat.le_of_ble_eq_true rfl) (Nat.le_of_ble_eq_true rfl) (fun E A1 h => ?_) (fun v' A1 h => ?_)
  · obtain ⟨⟨h0, h⟩ | ⟨h0, h⟩, hJ⟩ := h
    · cases h
    · have hE := Sum.inr.inj h
      subst hE
      rcases (show k = 1 ∨ k = 2 by omega) with rfl | rfl
      · refine bw_Tcatch [] ⟨0, 9, 12, 13⟩ [⟨0, 9, 15, 36⟩] rfl (fun z hz => absurd hz List.not_mem_nil) rfl (by decide) kl_13 kc_13 (fun q => ?_)
        refine bw_astore_n 13 dL_put_12 rfl (by decide) ?_
        refine bw_iconst (1) 14 dL_put_13 (by decide) rfl ?_
        exact bw_iret dL_put_14 rfl (Nat.le_of_ble_eq_true rfl) (Nat.le_of_ble_eq_true rfl) ⟨_, rfl, rfl, hJ, fun h => absurd h (by decide)⟩
      · refine bw_Tcatch [⟨0, 9, 12, 13⟩] ⟨0, 9, 15, 36⟩ [] rfl (fun z hz => by rw [List.mem_singleton.mp hz]; exact Or.inr ⟨by decide, _, kl_13, by decide +kernel⟩) rfl (by decide) kl_36 kc_36 (fun q => ?_)
        refine bw_astore_n 16 dL_put_15 rfl (by decide) ?_
        refine bw_iconst (2) 17 dL_put_16 (by decide) rfl ?_
        exact bw_iret dL_put_17 rfl (Nat.le_of_ble_eq_true rfl) (Nat.le_of_ble_eq_true rfl) ⟨_, rfl, rfl, hJ, fun h => absurd h (by decide)⟩
  · obtain ⟨⟨h0, h⟩ | ⟨h0, h⟩, hJ⟩ := h
    · have hv := Sum.inl.inj h
      subst hv
      subst h0
      obtain ⟨f, hf⟩ := hJ2 A1 hJ
      refine bw_i2l 8 dL_put_7 rfl ?_
      refine bw_lastU 9 dL_put_8 rfl hf (vp_in_nI (n := 0) (N := 1) (by decide) (by decide)) (fun A2 hU => ?_)
      refine bw_goto 18 dL_put_9 rfl ?_
      refine bw_iconst (0) 19 dL_put_18 (by decide) rfl ?_
      exact bw_iret dL_put_19 rfl (Nat.le_of_ble_eq_true rfl) (Nat.le_of_ble_eq_true rfl) ⟨_, rfl, rfl, by rw [hU]; exact hJ1 A1 _ hJ, fun _ => ⟨_, by rw [hU]; exact bw_up_eq, rfl⟩⟩
    · cases h
theorem w_row (g : bw_G) {A : bw_H} {x O k : Nat} {v : Int32} {fs : List Value} {J : bw_H → Prop} {a1 : Int32} (hb : A.2 x = some (.inr (11, fs))) (hk : k ≤ 1) (hJ1 : ∀ (A1 : bw_H) (f : Nat → Int64), J A1 → J (bw_up A1 O (bw_al g 1 f))) (hJ2 : ∀ A1 : bw_H, J A1 → ∃ f, A1.2 O = some (bw_al g 1 f)) (hC : bw_C g (bw_rm 8 20 200) mX9_row [.ref x, .int a1] A (fun o A1 => (k = 0 ∧ o = .inl (some (.int v)) ∨ k ≠ 0 ∧ o = .inr (exN [eIO] k)) ∧ J A1)) :
    bw_CH g (bw_rm 9 20 200) mL_row [.ref x, .int a1, .ref O] A (bw_pm (fun y A1 => y = nI k ∧ J A1 ∧ (k = 0 → ∃ f, A1.2 O = some (bw_al g 1 f) ∧ f 0 = v.toInt64))) := by
  refine bw_CH.of (by decide) (Nat.le_of_ble_eq_true rfl) ?_
  refine bw_aload_n 1 dL_row_0 rfl rfl ?_
  refine bw_iconst (0) 2 dL_row_1 (by decide) rfl ?_
  refine bw_aload_n 3 dL_row_2 rfl rfl ?_
  refine bw_iload_n 4 dL_row_3 rfl rfl ?_
  refine bw_callV 7 dL_row_4 rfl vL_38 hC hb rfl rfl (Nat.le_of_ble_eq_true rfl) ⟨(Nat.le_of_ble_eq_true rfl), (Nat.le_of_ble_eq_true rfl)⟩ (Nat.le_of_ble_eq_true rfl) (Nat.le_of_ble_eq_true rfl) (fun E A1 h => ?_) (fun v' A1 h => ?_)
  · obtain ⟨⟨h0, h⟩ | ⟨h0, h⟩, hJ⟩ := h
    · cases h
    · have hE := Sum.inr.inj h
      subst hE
      have h1 : k = 1 := by omega
      subst h1
      refine bw_Tcatch [] ⟨0, 9, 12, 41⟩ [] rfl (fun z hz => absurd hz List.not_mem_nil) rfl (by decide) kl_41 kc_41 (fun q => ?_)
      refine bw_astore_n 13 dL_row_12 rfl (by decide) ?_
      refine bw_iconst (1) 14 dL_row_13 (by decide) rfl ?_
      exact bw_iret dL_row_14 rfl (Nat.le_of_ble_eq_true rfl) (Nat.le_of_ble_eq_true rfl) ⟨_, rfl, rfl, hJ, fun h => absurd h (by decide)⟩
  · obtain ⟨⟨h0, h⟩ | ⟨h0, h⟩, hJ⟩ := h
    · have hv := Sum.inl.inj h
      subst hv
      subst h0
      obtain ⟨f, hf⟩ := hJ2 A1 hJ
      refine bw_i2l 8 dL_row_7 rfl ?_
      refine bw_lastU 9 dL_row_8 rfl hf (vp_in_nI (n := 0) (N := 1) (by decide) (by decide)) (fun A2 hU => ?_)
      refine bw_goto 15 dL_row_9 rfl ?_
      refine bw_iconst (0) 16 dL_row_15 (by decide) rfl ?_
      exact bw_iret dL_row_16 rfl (Nat.le_of_ble_eq_true rfl) (Nat.le_of_ble_eq_true rfl) ⟨_, rfl, rfl, by rw [hU]; exact hJ1 A1 _ hJ, fun _ => ⟨_, by rw [hU]; exact bw_up_eq, rfl⟩⟩
    · cases h
theorem w_matrix (g : bw_G) {A : bw_H} {x O k : Nat} {v : Int32} {fs : List Value} {J : bw_H → Prop} {a1 : Int32} {a2 : Int32} (hb : A.2 x = some (.inr (11, fs))) (hk : k ≤ 2) (hJ1 : ∀ (A1 : bw_H) (f : Nat → Int64), J A1 → J (bw_up A1 O (bw_al g 1 f))) (hJ2 : ∀ A1 : bw_H, J A1 → ∃ f, A1.2 O = some (bw_al g 1 f)) (hC : bw_C g (bw_rm 8 20 200) mX9_matrix [.ref x, .int a1, .int a2] A (fun o A1 => (k = 0 ∧ o = .inl (some (.int v)) ∨ k ≠ 0 ∧ o = .inr (exN [eIA, eUO] k)) ∧ J A1)) :
    bw_CH g (bw_rm 9 20 200) mL_matrix [.ref x, .int a1, .int a2, .ref O] A (bw_pm (fun y A1 => y = nI k ∧ J A1 ∧ (k = 0 → ∃ f, A1.2 O = some (bw_al g 1 f) ∧ f 0 = v.toInt64))) := by
  refine bw_CH.of (by decide) (Nat.le_of_ble_eq_true rfl) ?_
  refine bw_aload_n 1 dL_matrix_0 rfl rfl ?_
  refine bw_iconst (0) 2 dL_matrix_1 (by decide) rfl ?_
  refine bw_aload_n 3 dL_matrix_2 rfl rfl ?_
  refine bw_iload_n 4 dL_matrix_3 rfl rfl ?_
  refine bw_iload_n 5 dL_matrix_4 rfl rfl ?_
  refine bw_callV 8 dL_matrix_5 rfl vL_43 hC hb rfl rfl (Nat.le_of_ble_eq_true rfl) ⟨(Nat.le_of_ble_eq_true rfl), (Nat.le_of_ble_eq_true rfl)⟩ (Nat.le_of_ble_eq_true rfl) (Nat.le_of_ble_eq_true rfl) (fun E A1 h => ?_) (fun v' A1 h => ?_)
  · obtain ⟨⟨h0, h⟩ | ⟨h0, h⟩, hJ⟩ := h
    · cases h
    · have hE := Sum.inr.inj h
      subst hE
      rcases (show k = 1 ∨ k = 2 by omega) with rfl | rfl
      · refine bw_Tcatch [] ⟨0, 10, 13, 13⟩ [⟨0, 10, 17, 36⟩] rfl (fun z hz => absurd hz List.not_mem_nil) rfl (by decide) kl_13 kc_13 (fun q => ?_)
        refine bw_astore 15 dL_matrix_13 rfl (by decide) ?_
        refine bw_iconst (1) 16 dL_matrix_15 (by decide) rfl ?_
        exact bw_iret dL_matrix_16 rfl (Nat.le_of_ble_eq_true rfl) (Nat.le_of_ble_eq_true rfl) ⟨_, rfl, rfl, hJ, fun h => absurd h (by decide)⟩
      · refine bw_Tcatch [⟨0, 10, 13, 13⟩] ⟨0, 10, 17, 36⟩ [] rfl (fun z hz => by rw [List.mem_singleton.mp hz]; exact Or.inr ⟨by decide, _, kl_13, by decide +kernel⟩) rfl (by decide) kl_36 kc_36 (fun q => ?_)
        refine bw_astore 19 dL_matrix_17 rfl (by decide) ?_
        refine bw_iconst (2) 20 dL_matrix_19 (by decide) rfl ?_
        exact bw_iret dL_matrix_20 rfl (Nat.le_of_ble_eq_true rfl) (Nat.le_of_ble_eq_true rfl) ⟨_, rfl, rfl, hJ, fun h => absurd h (by decide)⟩
  · obtain ⟨⟨h0, h⟩ | ⟨h0, h⟩, hJ⟩ := h
    · have hv := Sum.inl.inj h
      subst hv
      subst h0
      obtain ⟨f, hf⟩ := hJ2 A1 hJ
      refine bw_i2l 9 dL_matrix_8 rfl ?_
      refine bw_lastU 10 dL_matrix_9 rfl hf (vp_in_nI (n := 0) (N := 1) (by decide) (by decide)) (fun A2 hU => ?_)
      refine bw_goto 21 dL_matrix_10 rfl ?_
      refine bw_iconst (0) 22 dL_matrix_21 (by decide) rfl ?_
      exact bw_iret dL_matrix_22 rfl (Nat.le_of_ble_eq_true rfl) (Nat.le_of_ble_eq_true rfl) ⟨_, rfl, rfl, by rw [hU]; exact hJ1 A1 _ hJ, fun _ => ⟨_, by rw [hU]; exact bw_up_eq, rfl⟩⟩
    · cases h
theorem w_powers (g : bw_G) {A : bw_H} {x O k : Nat} {v : Int32} {fs : List Value} {J : bw_H → Prop} {a1 : Int32} {a2 : Int32} (hb : A.2 x = some (.inr (11, fs))) (hk : k ≤ 3) (hJ1 : ∀ (A1 : bw_H) (f : Nat → Int64), J A1 → J (bw_up A1 O (bw_al g 1 f))) (hJ2 : ∀ A1 : bw_H, J A1 → ∃ f, A1.2 O = some (bw_al g 1 f)) (hC : bw_C g (bw_rm 8 20 200) mX9_powers [.ref x, .int a1, .int a2] A (fun o A1 => (k = 0 ∧ o = .inl (some (.int v)) ∨ k ≠ 0 ∧ o = .inr (exN [eIA, eIS, eUO] k)) ∧ J A1)) :
    bw_CH g (bw_rm 9 20 200) mL_powers [.ref x, .int a1, .int a2, .ref O] A (bw_pm (fun y A1 => y = nI k ∧ J A1 ∧ (k = 0 → ∃ f, A1.2 O = some (bw_al g 1 f) ∧ f 0 = v.toInt64))) := by
  refine bw_CH.of (by decide) (Nat.le_of_ble_eq_true rfl) ?_
  refine bw_aload_n 1 dL_powers_0 rfl rfl ?_
  refine bw_iconst (0) 2 dL_powers_1 (by decide) rfl ?_
  refine bw_aload_n 3 dL_powers_2 rfl rfl ?_
  refine bw_iload_n 4 dL_powers_3 rfl rfl ?_
  refine bw_iload_n 5 dL_powers_4 rfl rfl ?_
  refine bw_callV 8 dL_powers_5 rfl vL_46 hC hb rfl rfl (Nat.le_of_ble_eq_true rfl) ⟨(Nat.le_of_ble_eq_true rfl), (Nat.le_of_ble_eq_true rfl)⟩ (Nat.le_of_ble_eq_true rfl) (Nat.le_of_ble_eq_true rfl) (fun E A1 h => ?_) (fun v' A1 h => ?_)
  · obtain ⟨⟨h0, h⟩ | ⟨h0, h⟩, hJ⟩ := h
    · cases h
    · have hE := Sum.inr.inj h
      subst hE
      rcases (show k = 1 ∨ k = 2 ∨ k = 3 by omega) with rfl | rfl | rfl
      · refine bw_Tcatch [] ⟨0, 10, 13, 13⟩ [⟨0, 10, 17, 49⟩, ⟨0, 10, 21, 36⟩] rfl (fun z hz => absurd hz List.not_mem_nil) rfl (by decide) kl_13 kc_13 (fun q => ?_)
        refine bw_astore 15 dL_powers_13 rfl (by decide) ?_
        refine bw_iconst (1) 16 dL_powers_15 (by decide) rfl ?_
        exact bw_iret dL_powers_16 rfl (Nat.le_of_ble_eq_true rfl) (Nat.le_of_ble_eq_true rfl) ⟨_, rfl, rfl, hJ, fun h => absurd h (by decide)⟩
      · refine bw_Tcatch [⟨0, 10, 13, 13⟩] ⟨0, 10, 17, 49⟩ [⟨0, 10, 21, 36⟩] rfl (fun z hz => by rw [List.mem_singleton.mp hz]; exact Or.inr ⟨by decide, _, kl_13, by decide +kernel⟩) rfl (by decide) kl_49 kc_49 (fun q => ?_)
        refine bw_astore 19 dL_powers_17 rfl (by decide) ?_
        refine bw_iconst (2) 20 dL_powers_19 (by decide) rfl ?_
        exact bw_iret dL_powers_20 rfl (Nat.le_of_ble_eq_true rfl) (Nat.le_of_ble_eq_true rfl) ⟨_, rfl, rfl, hJ, fun h => absurd h (by decide)⟩
      · refine bw_Tcatch [⟨0, 10, 13, 13⟩, ⟨0, 10, 17, 49⟩] ⟨0, 10, 21, 36⟩ [] rfl (fun z hz => (List.mem_cons.mp hz).elim (fun h => by rw [h]; exact Or.inr ⟨by decide, _, kl_13, by decide +kernel⟩) (fun h => by rw [List.mem_singleton.mp h]; exact Or.inr ⟨by decide, _, kl_49, by decide +kernel⟩)) rfl (by decide) kl_36 kc_36 (fun q => ?_)
        refine bw_astore 23 dL_powers_21 rfl (by decide) ?_
        refine bw_iconst (3) 24 dL_powers_23 (by decide) rfl ?_
        exact bw_iret dL_powers_24 rfl (Nat.le_of_ble_eq_true rfl) (Nat.le_of_ble_eq_true rfl) ⟨_, rfl, rfl, hJ, fun h => absurd h (by decide)⟩
  · obtain ⟨⟨h0, h⟩ | ⟨h0, h⟩, hJ⟩ := h
    · have hv := Sum.inl.inj h
      subst hv
      subst h0
      obtain ⟨f, hf⟩ := hJ2 A1 hJ
      refine bw_i2l 9 dL_powers_8 rfl ?_
      refine bw_lastU 10 dL_powers_9 rfl hf (vp_in_nI (n := 0) (N := 1) (by decide) (by decide)) (fun A2 hU => ?_)
      refine bw_goto 25 dL_powers_10 rfl ?_
      refine bw_iconst (0) 26 dL_powers_25 (by decide) rfl ?_
      exact bw_iret dL_powers_26 rfl (Nat.le_of_ble_eq_true rfl) (Nat.le_of_ble_eq_true rfl) ⟨_, rfl, rfl, by rw [hU]; exact hJ1 A1 _ hJ, fun _ => ⟨_, by rw [hU]; exact bw_up_eq, rfl⟩⟩
    · cases h
theorem w_sums (g : bw_G) {A : bw_H} {x O k : Nat} {v : Int32} {fs : List Value} {J : bw_H → Prop} {a1 : Int32} {a2 : Int32} (hb : A.2 x = some (.inr (11, fs))) (hk : k ≤ 3) (hJ1 : ∀ (A1 : bw_H) (f : Nat → Int64), J A1 → J (bw_up A1 O (bw_al g 1 f))) (hJ2 : ∀ A1 : bw_H, J A1 → ∃ f, A1.2 O = some (bw_al g 1 f)) (hC : bw_C g (bw_rm 8 20 200) mX9_sums [.ref x, .int a1, .int a2] A (fun o A1 => (k = 0 ∧ o = .inl (some (.int v)) ∨ k ≠ 0 ∧ o = .inr (exN [eIA, eIS, eUO] k)) ∧ J A1)) :
    bw_CH g (bw_rm 9 20 200) mL_sums [.ref x, .int a1, .int a2, .ref O] A (bw_pm (fun y A1 => y = nI k ∧ J A1 ∧ (k = 0 → ∃ f, A1.2 O = some (bw_al g 1 f) ∧ f 0 = v.toInt64))) := by
  refine bw_CH.of (by decide) (Nat.le_of_ble_eq_true rfl) ?_
  refine bw_aload_n 1 dL_sums_0 rfl rfl ?_
  refine bw_iconst (0) 2 dL_sums_1 (by decide) rfl ?_
  refine bw_aload_n 3 dL_sums_2 rfl rfl ?_
  refine bw_iload_n 4 dL_sums_3 rfl rfl ?_
  refine bw_iload_n 5 dL_sums_4 rfl rfl ?_
  refine bw_callV 8 dL_sums_5 rfl vL_51 hC hb rfl rfl (Nat.le_of_ble_eq_true rfl) ⟨(Nat.le_of_ble_eq_true rfl), (Nat.le_of_ble_eq_true rfl)⟩ (Nat.le_of_ble_eq_true rfl) (Nat.le_of_ble_eq_true rfl) (fun E A1 h => ?_) (fun v' A1 h => ?_)
  · obtain ⟨⟨h0, h⟩ | ⟨h0, h⟩, hJ⟩ := h
    · cases h
    · have hE := Sum.inr.inj h
      subst hE
      rcases (show k = 1 ∨ k = 2 ∨ k = 3 by omega) with rfl | rfl | rfl
      · refine bw_Tcatch [] ⟨0, 10, 13, 13⟩ [⟨0, 10, 17, 49⟩, ⟨0, 10, 21, 36⟩] rfl (fun z hz => absurd hz List.not_mem_nil) rfl (by decide) kl_13 kc_13 (fun q => ?_)
        refine bw_astore 15 dL_sums_13 rfl (by decide) ?_
        refine bw_iconst (1) 16 dL_sums_15 (by decide) rfl ?_
        exact bw_iret dL_sums_16 rfl (Nat.le_of_ble_eq_true rfl) (Nat.le_of_ble_eq_true rfl) ⟨_, rfl, rfl, hJ, fun h => absurd h (by decide)⟩
      · refine bw_Tcatch [⟨0, 10, 13, 13⟩] ⟨0, 10, 17, 49⟩ [⟨0, 10, 21, 36⟩] rfl (fun z hz => by rw [List.mem_singleton.mp hz]; exact Or.inr ⟨by decide, _, kl_13, by decide +kernel⟩) rfl (by decide) kl_49 kc_49 (fun q => ?_)
        refine bw_astore 19 dL_sums_17 rfl (by decide) ?_
        refine bw_iconst (2) 20 dL_sums_19 (by decide) rfl ?_
        exact bw_iret dL_sums_20 rfl (Nat.le_of_ble_eq_true rfl) (Nat.le_of_ble_eq_true rfl) ⟨_, rfl, rfl, hJ, fun h => absurd h (by decide)⟩
      · refine bw_Tcatch [⟨0, 10, 13, 13⟩, ⟨0, 10, 17, 49⟩] ⟨0, 10, 21, 36⟩ [] rfl (fun z hz => (List.mem_cons.mp hz).elim (fun h => by rw [h]; exact Or.inr ⟨by decide, _, kl_13, by decide +kernel⟩) (fun h => by rw [List.mem_singleton.mp h]; exact Or.inr ⟨by decide, _, kl_49, by decide +kernel⟩)) rfl (by decide) kl_36 kc_36 (fun q => ?_)
        refine bw_astore 23 dL_sums_21 rfl (by decide) ?_
        refine bw_iconst (3) 24 dL_sums_23 (by decide) rfl ?_
        exact bw_iret dL_sums_24 rfl (Nat.le_of_ble_eq_true rfl) (Nat.le_of_ble_eq_true rfl) ⟨_, rfl, rfl, hJ, fun h => absurd h (by decide)⟩
  · obtain ⟨⟨h0, h⟩ | ⟨h0, h⟩, hJ⟩ := h
    · have hv := Sum.inl.inj h
      subst hv
      subst h0
      obtain ⟨f, hf⟩ := hJ2 A1 hJ
      refine bw_i2l 9 dL_sums_8 rfl ?_
      refine bw_lastU 10 dL_sums_9 rfl hf (vp_in_nI (n := 0) (N := 1) (by decide) (by decide)) (fun A2 hU => ?_)
      refine bw_goto 25 dL_sums_10 rfl ?_
      refine bw_iconst (0) 26 dL_sums_25 (by decide) rfl ?_
      exact bw_iret dL_sums_26 rfl (Nat.le_of_ble_eq_true rfl) (Nat.le_of_ble_eq_true rfl) ⟨_, rfl, rfl, by rw [hU]; exact hJ1 A1 _ hJ, fun _ => ⟨_, by rw [hU]; exact bw_up_eq, rfl⟩⟩
    · cases h
theorem w_size (g : bw_G) {A : bw_H} {x O k : Nat} {v : Int32} {fs : List Value} {J : bw_H → Prop} {a1 : Int32} {a2 : Int32} (hb : A.2 x = some (.inr (11, fs))) (hk : k ≤ 2) (hJ1 : ∀ (A1 : bw_H) (f : Nat → Int64), J A1 → J (bw_up A1 O (bw_al g 1 f))) (hJ2 : ∀ A1 : bw_H, J A1 → ∃ f, A1.2 O = some (bw_al g 1 f)) (hC : bw_C g (bw_rm 8 20 200) mX9_size [.ref x, .int a1, .int a2] A (fun o A1 => (k = 0 ∧ o = .inl (some (.int v)) ∨ k ≠ 0 ∧ o = .inr (exN [eIO, eIA] k)) ∧ J A1)) :
    bw_CH g (bw_rm 9 20 200) mL_size [.ref x, .int a1, .int a2, .ref O] A (bw_pm (fun y A1 => y = nI k ∧ J A1 ∧ (k = 0 → ∃ f, A1.2 O = some (bw_al g 1 f) ∧ f 0 = v.toInt64))) := by
  refine bw_CH.of (by decide) (Nat.le_of_ble_eq_true rfl) ?_
  refine bw_aload_n 1 dL_size_0 rfl rfl ?_
  refine bw_iconst (0) 2 dL_size_1 (by decide) rfl ?_
  refine bw_aload_n 3 dL_size_2 rfl rfl ?_
  refine bw_iload_n 4 dL_size_3 rfl rfl ?_
  refine bw_iload_n 5 dL_size_4 rfl rfl ?_
  refine bw_callV 8 dL_size_5 rfl vL_54 hC hb rfl rfl (Nat.le_of_ble_eq_true rfl) ⟨(Nat.le_of_ble_eq_true rfl), (Nat.le_of_ble_eq_true rfl)⟩ (Nat.le_of_ble_eq_true rfl) (Nat.le_of_ble_eq_true rfl) (fun E A1 h => ?_) (fun v' A1 h => ?_)
  · obtain ⟨⟨h0, h⟩ | ⟨h0, h⟩, hJ⟩ := h
    · cases h
    · have hE := Sum.inr.inj h
      subst hE
      rcases (show k = 1 ∨ k = 2 by omega) with rfl | rfl
      · refine bw_Tcatch [] ⟨0, 10, 13, 41⟩ [⟨0, 10, 17, 13⟩] rfl (fun z hz => absurd hz List.not_mem_nil) rfl (by decide) kl_41 kc_41 (fun q => ?_)
        refine bw_astore 15 dL_size_13 rfl (by decide) ?_
        refine bw_iconst (1) 16 dL_size_15 (by decide) rfl ?_
        exact bw_iret dL_size_16 rfl (Nat.le_of_ble_eq_true rfl) (Nat.le_of_ble_eq_true rfl) ⟨_, rfl, rfl, hJ, fun h => absurd h (by decide)⟩
      · refine bw_Tcatch [⟨0, 10, 13, 41⟩] ⟨0, 10, 17, 13⟩ [] rfl (fun z hz => by rw [List.mem_singleton.mp hz]; exact Or.inr ⟨by decide, _, kl_41, by decide +kernel⟩) rfl (by decide) kl_13 kc_13 (fun q => ?_)
        refine bw_astore 19 dL_size_17 rfl (by decide) ?_
        refine bw_iconst (2) 20 dL_size_19 (by decide) rfl ?_
        exact bw_iret dL_size_20 rfl (Nat.le_of_ble_eq_true rfl) (Nat.le_of_ble_eq_true rfl) ⟨_, rfl, rfl, hJ, fun h => absurd h (by decide)⟩
  · obtain ⟨⟨h0, h⟩ | ⟨h0, h⟩, hJ⟩ := h
    · have hv := Sum.inl.inj h
      subst hv
      subst h0
      obtain ⟨f, hf⟩ := hJ2 A1 hJ
      refine bw_i2l 9 dL_size_8 rfl ?_
      refine bw_lastU 10 dL_size_9 rfl hf (vp_in_nI (n := 0) (N := 1) (by decide) (by decide)) (fun A2 hU => ?_)
      refine bw_goto 21 dL_size_10 rfl ?_
      refine bw_iconst (0) 22 dL_size_21 (by decide) rfl ?_
      exact bw_iret dL_size_22 rfl (Nat.le_of_ble_eq_true rfl) (Nat.le_of_ble_eq_true rfl) ⟨_, rfl, rfl, by rw [hU]; exact hJ1 A1 _ hJ, fun _ => ⟨_, by rw [hU]; exact bw_up_eq, rfl⟩⟩
    · cases h
theorem w_cell_ (g : bw_G) {A : bw_H} {x O k : Nat} {v : Int32} {fs : List Value} {J : bw_H → Prop} {a1 : Int32} {a2 : Int32} {a3 : Int32} (hb : A.2 x = some (.inr (11, fs))) (hk : k ≤ 1) (hJ1 : ∀ (A1 : bw_H) (f : Nat → Int64), J A1 → J (bw_up A1 O (bw_al g 1 f))) (hJ2 : ∀ A1 : bw_H, J A1 → ∃ f, A1.2 O = some (bw_al g 1 f)) (hC : bw_C g (bw_rm 8 20 200) mX9_cell [.ref x, .int a1, .int a2, .int a3] A (fun o A1 => (k = 0 ∧ o = .inl (some (.int v)) ∨ k ≠ 0 ∧ o = .inr (exN [eIO] k)) ∧ J A1)) :
    bw_CH g (bw_rm 9 20 200) mL_cell_ [.ref x, .int a1, .int a2, .int a3, .ref O] A (bw_pm (fun y A1 => y = nI k ∧ J A1 ∧ (k = 0 → ∃ f, A1.2 O = some (bw_al g 1 f) ∧ f 0 = v.toInt64))) := by
  refine bw_CH.of (by decide) (Nat.le_of_ble_eq_true rfl) ?_
  refine bw_aload 2 dL_cell__0 rfl rfl ?_
  refine bw_iconst (0) 3 dL_cell__2 (by decide) rfl ?_
  refine bw_aload_n 4 dL_cell__3 rfl rfl ?_
  refine bw_iload_n 5 dL_cell__4 rfl rfl ?_
  refine bw_iload_n 6 dL_cell__5 rfl rfl ?_
  refine bw_iload_n 7 dL_cell__6 rfl rfl ?_
  refine bw_callV 10 dL_cell__7 rfl vL_57 hC hb rfl rfl (Nat.le_of_ble_eq_true rfl) ⟨(Nat.le_of_ble_eq_true rfl), (Nat.le_of_ble_eq_true rfl)⟩ (Nat.le_of_ble_eq_true rfl) (Nat.le_of_ble_eq_true rfl) (fun E A1 h => ?_) (fun v' A1 h => ?_)
  · obtain ⟨⟨h0, h⟩ | ⟨h0, h⟩, hJ⟩ := h
    · cases h
    · have hE := Sum.inr.inj h
      subst hE
      have h1 : k = 1 := by omega
      subst h1
      refine bw_Tcatch [] ⟨0, 12, 15, 41⟩ [] rfl (fun z hz => absurd hz List.not_mem_nil) rfl (by decide) kl_41 kc_41 (fun q => ?_)
      refine bw_astore 17 dL_cell__15 rfl (by decide) ?_
      refine bw_iconst (1) 18 dL_cell__17 (by decide) rfl ?_
      exact bw_iret dL_cell__18 rfl (Nat.le_of_ble_eq_true rfl) (Nat.le_of_ble_eq_true rfl) ⟨_, rfl, rfl, hJ, fun h => absurd h (by decide)⟩
  · obtain ⟨⟨h0, h⟩ | ⟨h0, h⟩, hJ⟩ := h
    · have hv := Sum.inl.inj h
      subst hv
      subst h0
      obtain ⟨f, hf⟩ := hJ2 A1 hJ
      refine bw_i2l 11 dL_cell__10 rfl ?_
      refine bw_lastU 12 dL_cell__11 rfl hf (vp_in_nI (n := 0) (N := 1) (by decide) (by decide)) (fun A2 hU => ?_)
      refine bw_goto 19 dL_cell__12 rfl ?_
      refine bw_iconst (0) 20 dL_cell__19 (by decide) rfl ?_
      exact bw_iret dL_cell__20 rfl (Nat.le_of_ble_eq_true rfl) (Nat.le_of_ble_eq_true rfl) ⟨_, rfl, rfl, by rw [hU]; exact hJ1 A1 _ hJ, fun _ => ⟨_, by rw [hU]; exact bw_up_eq, rfl⟩⟩
    · cases h
theorem w_set (g : bw_G) {A : bw_H} {x O k : Nat} {v : Int32} {fs : List Value} {J : bw_H → Prop} {a1 : Int32} {a2 : Int32} {a3 : Int32} {a4 : Int32} (hb : A.2 x = some (.inr (11, fs))) (hk : k ≤ 2) (hJ1 : ∀ (A1 : bw_H) (f : Nat → Int64), J A1 → J (bw_up A1 O (bw_al g 1 f))) (hJ2 : ∀ A1 : bw_H, J A1 → ∃ f, A1.2 O = some (bw_al g 1 f)) (hC : bw_C g (bw_rm 8 20 200) mX9_set [.ref x, .int a1, .int a2, .int a3, .int a4] A (fun o A1 => (k = 0 ∧ o = .inl (some (.int v)) ∨ k ≠ 0 ∧ o = .inr (exN [eIO, eIA] k)) ∧ J A1)) :
    bw_CH g (bw_rm 9 20 200) mL_set [.ref x, .int a1, .int a2, .int a3, .int a4, .ref O] A (bw_pm (fun y A1 => y = nI k ∧ J A1 ∧ (k = 0 → ∃ f, A1.2 O = some (bw_al g 1 f) ∧ f 0 = v.toInt64))) := by
  refine bw_CH.of (by decide) (Nat.le_of_ble_eq_true rfl) ?_
  refine bw_aload 2 dL_set_0 rfl rfl ?_
  refine bw_iconst (0) 3 dL_set_2 (by decide) rfl ?_
  refine bw_aload_n 4 dL_set_3 rfl rfl ?_
  refine bw_iload_n 5 dL_set_4 rfl rfl ?_
  refine bw_iload_n 6 dL_set_5 rfl rfl ?_
  refine bw_iload_n 7 dL_set_6 rfl rfl ?_
  refine bw_iload 9 dL_set_7 rfl rfl ?_
  refine bw_callV 12 dL_set_9 rfl vL_61 hC hb rfl rfl (Nat.le_of_ble_eq_true rfl) ⟨(Nat.le_of_ble_eq_true rfl), (Nat.le_of_ble_eq_true rfl)⟩ (Nat.le_of_ble_eq_true rfl) (Nat.le_of_ble_eq_true rfl) (fun E A1 h => ?_) (fun v' A1 h => ?_)
  · obtain ⟨⟨h0, h⟩ | ⟨h0, h⟩, hJ⟩ := h
    · cases h
    · have hE := Sum.inr.inj h
      subst hE
      rcases (show k = 1 ∨ k = 2 by omega) with rfl | rfl
      · refine bw_Tcatch [] ⟨0, 14, 17, 41⟩ [⟨0, 14, 21, 13⟩] rfl (fun z hz => absurd hz List.not_mem_nil) rfl (by decide) kl_41 kc_41 (fun q => ?_)
        refine bw_astore 19 dL_set_17 rfl (by decide) ?_
        refine bw_iconst (1) 20 dL_set_19 (by decide) rfl ?_
        exact bw_iret dL_set_20 rfl (Nat.le_of_ble_eq_true rfl) (Nat.le_of_ble_eq_true rfl) ⟨_, rfl, rfl, hJ, fun h => absurd h (by decide)⟩
      · refine bw_Tcatch [⟨0, 14, 17, 41⟩] ⟨0, 14, 21, 13⟩ [] rfl (fun z hz => by rw [List.mem_singleton.mp hz]; exact Or.inr ⟨by decide, _, kl_41, by decide +kernel⟩) rfl (by decide) kl_13 kc_13 (fun q => ?_)
        refine bw_astore 23 dL_set_21 rfl (by decide) ?_
        refine bw_iconst (2) 24 dL_set_23 (by decide) rfl ?_
        exact bw_iret dL_set_24 rfl (Nat.le_of_ble_eq_true rfl) (Nat.le_of_ble_eq_true rfl) ⟨_, rfl, rfl, hJ, fun h => absurd h (by decide)⟩
  · obtain ⟨⟨h0, h⟩ | ⟨h0, h⟩, hJ⟩ := h
    · have hv := Sum.inl.inj h
      subst hv
      subst h0
      obtain ⟨f, hf⟩ := hJ2 A1 hJ
      refine bw_i2l 13 dL_set_12 rfl ?_
      refine bw_lastU 14 dL_set_13 rfl hf (vp_in_nI (n := 0) (N := 1) (by decide) (by decide)) (fun A2 hU => ?_)
      refine bw_goto 25 dL_set_14 rfl ?_
      refine bw_iconst (0) 26 dL_set_25 (by decide) rfl ?_
      exact bw_iret dL_set_26 rfl (Nat.le_of_ble_eq_true rfl) (Nat.le_of_ble_eq_true rfl) ⟨_, rfl, rfl, by rw [hU]; exact hJ1 A1 _ hJ, fun _ => ⟨_, by rw [hU]; exact bw_up_eq, rfl⟩⟩
    · cases h
theorem w_times (g : bw_G) {A : bw_H} {x O k : Nat} {v : Int32} {fs : List Value} {J : bw_H → Prop} {a1 : Int32} {a2 : Int32} (hb : A.2 x = some (.inr (11, fs))) (hk : k ≤ 3) (hJ1 : ∀ (A1 : bw_H) (f : Nat → Int64), J A1 → J (bw_up A1 O (bw_al g 1 f))) (hJ2 : ∀ A1 : bw_H, J A1 → ∃ f, A1.2 O = some (bw_al g 1 f)) (hC : bw_C g (bw_rm 8 20 200) mX9_times [.ref x, .int a1, .int a2] A (fun o A1 => (k = 0 ∧ o = .inl (some (.int v)) ∨ k ≠ 0 ∧ o = .inr (exN [eIO, eIS, eUO] k)) ∧ J A1)) :
    bw_CH g (bw_rm 9 20 200) mL_times [.ref x, .int a1, .int a2, .ref O] A (bw_pm (fun y A1 => y = nI k ∧ J A1 ∧ (k = 0 → ∃ f, A1.2 O = some (bw_al g 1 f) ∧ f 0 = v.toInt64))) := by
  refine bw_CH.of (by decide) (Nat.le_of_ble_eq_true rfl) ?_
  refine bw_aload_n 1 dL_times_0 rfl rfl ?_
  refine bw_iconst (0) 2 dL_times_1 (by decide) rfl ?_
  refine bw_aload_n 3 dL_times_2 rfl rfl ?_
  refine bw_iload_n 4 dL_times_3 rfl rfl ?_
  refine bw_iload_n 5 dL_times_4 rfl rfl ?_
  refine bw_callV 8 dL_times_5 rfl vL_65 hC hb rfl rfl (Nat.le_of_ble_eq_true rfl) ⟨(Nat.le_of_ble_eq_true rfl), (Nat.le_of_ble_eq_true rfl)⟩ (Nat.le_of_ble_eq_true rfl) (Nat.le_of_ble_eq_true rfl) (fun E A1 h => ?_) (fun v' A1 h => ?_)
  · obtain ⟨⟨h0, h⟩ | ⟨h0, h⟩, hJ⟩ := h
    · cases h
    · have hE := Sum.inr.inj h
      subst hE
      rcases (show k = 1 ∨ k = 2 ∨ k = 3 by omega) with rfl | rfl | rfl
      · refine bw_Tcatch [] ⟨0, 10, 13, 41⟩ [⟨0, 10, 17, 49⟩, ⟨0, 10, 21, 36⟩] rfl (fun z hz => absurd hz List.not_mem_nil) rfl (by decide) kl_41 kc_41 (fun q => ?_)
        refine bw_astore 15 dL_times_13 rfl (by decide) ?_
        refine bw_iconst (1) 16 dL_times_15 (by decide) rfl ?_
        exact bw_iret dL_times_16 rfl (Nat.le_of_ble_eq_true rfl) (Nat.le_of_ble_eq_true rfl) ⟨_, rfl, rfl, hJ, fun h => absurd h (by decide)⟩
      · refine bw_Tcatch [⟨0, 10, 13, 41⟩] ⟨0, 10, 17, 49⟩ [⟨0, 10, 21, 36⟩] rfl (fun z hz => by rw [List.mem_singleton.mp hz]; exact Or.inr ⟨by decide, _, kl_41, by decide +kernel⟩) rfl (by decide) kl_49 kc_49 (fun q => ?_)
        refine bw_astore 19 dL_times_17 rfl (by decide) ?_
        refine bw_iconst (2) 20 dL_times_19 (by decide) rfl ?_
        exact bw_iret dL_times_20 rfl (Nat.le_of_ble_eq_true rfl) (Nat.le_of_ble_eq_true rfl) ⟨_, rfl, rfl, hJ, fun h => absurd h (by decide)⟩
      · refine bw_Tcatch [⟨0, 10, 13, 41⟩, ⟨0, 10, 17, 49⟩] ⟨0, 10, 21, 36⟩ [] rfl (fun z hz => (List.mem_cons.mp hz).elim (fun h => by rw [h]; exact Or.inr ⟨by decide, _, kl_41, by decide +kernel⟩) (fun h => by rw [List.mem_singleton.mp h]; exact Or.inr ⟨by decide, _, kl_49, by decide +kernel⟩)) rfl (by decide) kl_36 kc_36 (fun q => ?_)
        refine bw_astore 23 dL_times_21 rfl (by decide) ?_
        refine bw_iconst (3) 24 dL_times_23 (by decide) rfl ?_
        exact bw_iret dL_times_24 rfl (Nat.le_of_ble_eq_true rfl) (Nat.le_of_ble_eq_true rfl) ⟨_, rfl, rfl, hJ, fun h => absurd h (by decide)⟩
  · obtain ⟨⟨h0, h⟩ | ⟨h0, h⟩, hJ⟩ := h
    · have hv := Sum.inl.inj h
      subst hv
      subst h0
      obtain ⟨f, hf⟩ := hJ2 A1 hJ
      refine bw_i2l 9 dL_times_8 rfl ?_
      refine bw_lastU 10 dL_times_9 rfl hf (vp_in_nI (n := 0) (N := 1) (by decide) (by decide)) (fun A2 hU => ?_)
      refine bw_goto 25 dL_times_10 rfl ?_
      refine bw_iconst (0) 26 dL_times_25 (by decide) rfl ?_
      exact bw_iret dL_times_26 rfl (Nat.le_of_ble_eq_true rfl) (Nat.le_of_ble_eq_true rfl) ⟨_, rfl, rfl, by rw [hU]; exact hJ1 A1 _ hJ, fun _ => ⟨_, by rw [hU]; exact bw_up_eq, rfl⟩⟩
    · cases h
theorem w_invert (g : bw_G) {A : bw_H} {x O k : Nat} {v : Int32} {fs : List Value} {J : bw_H → Prop} {a1 : Int32} (hb : A.2 x = some (.inr (11, fs))) (hk : k ≤ 3) (hJ1 : ∀ (A1 : bw_H) (f : Nat → Int64), J A1 → J (bw_up A1 O (bw_al g 1 f))) (hJ2 : ∀ A1 : bw_H, J A1 → ∃ f, A1.2 O = some (bw_al g 1 f)) (hC : bw_C g (bw_rm 8 20 200) mX9_invert [.ref x, .int a1] A (fun o A1 => (k = 0 ∧ o = .inl (some (.int v)) ∨ k ≠ 0 ∧ o = .inr (exN [eIO, eIS, eUO] k)) ∧ J A1)) :
    bw_CH g (bw_rm 9 20 200) mL_invert [.ref x, .int a1, .ref O] A (bw_pm (fun y A1 => y = nI k ∧ J A1 ∧ (k = 0 → ∃ f, A1.2 O = some (bw_al g 1 f) ∧ f 0 = v.toInt64))) := by
  refine bw_CH.of (by decide) (Nat.le_of_ble_eq_true rfl) ?_
  refine bw_aload_n 1 dL_invert_0 rfl rfl ?_
  refine bw_iconst (0) 2 dL_invert_1 (by decide) rfl ?_
  refine bw_aload_n 3 dL_invert_2 rfl rfl ?_
  refine bw_iload_n 4 dL_invert_3 rfl rfl ?_
  refine bw_callV 7 dL_invert_4 rfl vL_68 hC hb rfl rfl (Nat.le_of_ble_eq_true rfl) ⟨(Nat.le_of_ble_eq_true rfl), (Nat.le_of_ble_eq_true rfl)⟩ (Nat.le_of_ble_eq_true rfl) (Nat.le_of_ble_eq_true rfl) (fun E A1 h => ?_) (fun v' A1 h => ?_)
  · obtain ⟨⟨h0, h⟩ | ⟨h0, h⟩, hJ⟩ := h
    · cases h
    · have hE := Sum.inr.inj h
      subst hE
      rcases (show k = 1 ∨ k = 2 ∨ k = 3 by omega) with rfl | rfl | rfl
      · refine bw_Tcatch [] ⟨0, 9, 12, 41⟩ [⟨0, 9, 15, 49⟩, ⟨0, 9, 18, 36⟩] rfl (fun z hz => absurd hz List.not_mem_nil) rfl (by decide) kl_41 kc_41 (fun q => ?_)
        refine bw_astore_n 13 dL_invert_12 rfl (by decide) ?_
        refine bw_iconst (1) 14 dL_invert_13 (by decide) rfl ?_
        exact bw_iret dL_invert_14 rfl (Nat.le_of_ble_eq_true rfl) (Nat.le_of_ble_eq_true rfl) ⟨_, rfl, rfl, hJ, fun h => absurd h (by decide)⟩
      · refine bw_Tcatch [⟨0, 9, 12, 41⟩] ⟨0, 9, 15, 49⟩ [⟨0, 9, 18, 36⟩] rfl (fun z hz => by rw [List.mem_singleton.mp hz]; exact Or.inr ⟨by decide, _, kl_41, by decide +kernel⟩) rfl (by decide) kl_49 kc_49 (fun q => ?_)
        refine bw_astore_n 16 dL_invert_15 rfl (by decide) ?_
        refine bw_iconst (2) 17 dL_invert_16 (by decide) rfl ?_
        exact bw_iret dL_invert_17 rfl (Nat.le_of_ble_eq_true rfl) (Nat.le_of_ble_eq_true rfl) ⟨_, rfl, rfl, hJ, fun h => absurd h (by decide)⟩
      · refine bw_Tcatch [⟨0, 9, 12, 41⟩, ⟨0, 9, 15, 49⟩] ⟨0, 9, 18, 36⟩ [] rfl (fun z hz => (List.mem_cons.mp hz).elim (fun h => by rw [h]; exact Or.inr ⟨by decide, _, kl_41, by decide +kernel⟩) (fun h => by rw [List.mem_singleton.mp h]; exact Or.inr ⟨by decide, _, kl_49, by decide +kernel⟩)) rfl (by decide) kl_36 kc_36 (fun q => ?_)
        refine bw_astore_n 19 dL_invert_18 rfl (by decide) ?_
        refine bw_iconst (3) 20 dL_invert_19 (by decide) rfl ?_
        exact bw_iret dL_invert_20 rfl (Nat.le_of_ble_eq_true rfl) (Nat.le_of_ble_eq_true rfl) ⟨_, rfl, rfl, hJ, fun h => absurd h (by decide)⟩
  · obtain ⟨⟨h0, h⟩ | ⟨h0, h⟩, hJ⟩ := h
    · have hv := Sum.inl.inj h
      subst hv
      subst h0
      obtain ⟨f, hf⟩ := hJ2 A1 hJ
      refine bw_i2l 8 dL_invert_7 rfl ?_
      refine bw_lastU 9 dL_invert_8 rfl hf (vp_in_nI (n := 0) (N := 1) (by decide) (by decide)) (fun A2 hU => ?_)
      refine bw_goto 21 dL_invert_9 rfl ?_
      refine bw_iconst (0) 22 dL_invert_21 (by decide) rfl ?_
      exact bw_iret dL_invert_22 rfl (Nat.le_of_ble_eq_true rfl) (Nat.le_of_ble_eq_true rfl) ⟨_, rfl, rfl, by rw [hU]; exact hJ1 A1 _ hJ, fun _ => ⟨_, by rw [hU]; exact bw_up_eq, rfl⟩⟩
    · cases h
theorem w_rank (g : bw_G) {A : bw_H} {x O k : Nat} {v : Int32} {fs : List Value} {J : bw_H → Prop} {a1 : Int32} (hb : A.2 x = some (.inr (11, fs))) (hk : k ≤ 1) (hJ1 : ∀ (A1 : bw_H) (f : Nat → Int64), J A1 → J (bw_up A1 O (bw_al g 1 f))) (hJ2 : ∀ A1 : bw_H, J A1 → ∃ f, A1.2 O = some (bw_al g 1 f)) (hC : bw_C g (bw_rm 8 20 200) mX9_rank [.ref x, .int a1] A (fun o A1 => (k = 0 ∧ o = .inl (some (.int v)) ∨ k ≠ 0 ∧ o = .inr (exN [eIO] k)) ∧ J A1)) :
    bw_CH g (bw_rm 9 20 200) mL_rank [.ref x, .int a1, .ref O] A (bw_pm (fun y A1 => y = nI k ∧ J A1 ∧ (k = 0 → ∃ f, A1.2 O = some (bw_al g 1 f) ∧ f 0 = v.toInt64))) := by
  refine bw_CH.of (by decide) (Nat.le_of_ble_eq_true rfl) ?_
  refine bw_aload_n 1 dL_rank_0 rfl rfl ?_
  refine bw_iconst (0) 2 dL_rank_1 (by decide) rfl ?_
  refine bw_aload_n 3 dL_rank_2 rfl rfl ?_
  refine bw_iload_n 4 dL_rank_3 rfl rfl ?_
  refine bw_callV 7 dL_rank_4 rfl vL_71 hC hb rfl rfl (Nat.le_of_ble_eq_true rfl) ⟨(Nat.le_of_ble_eq_true rfl), (Nat.le_of_ble_eq_true rfl)⟩ (Nat.le_of_ble_eq_true rfl) (Nat.le_of_ble_eq_true rfl) (fun E A1 h => ?_) (fun v' A1 h => ?_)
  · obtain ⟨⟨h0, h⟩ | ⟨h0, h⟩, hJ⟩ := h
    · cases h
    · have hE := Sum.inr.inj h
      subst hE
      have h1 : k = 1 := by omega
      subst h1
      refine bw_Tcatch [] ⟨0, 9, 12, 41⟩ [] rfl (fun z hz => absurd hz List.not_mem_nil) rfl (by decide) kl_41 kc_41 (fun q => ?_)
      refine bw_astore_n 13 dL_rank_12 rfl (by decide) ?_
      refine bw_iconst (1) 14 dL_rank_13 (by decide) rfl ?_
      exact bw_iret dL_rank_14 rfl (Nat.le_of_ble_eq_true rfl) (Nat.le_of_ble_eq_true rfl) ⟨_, rfl, rfl, hJ, fun h => absurd h (by decide)⟩
  · obtain ⟨⟨h0, h⟩ | ⟨h0, h⟩, hJ⟩ := h
    · have hv := Sum.inl.inj h
      subst hv
      subst h0
      obtain ⟨f, hf⟩ := hJ2 A1 hJ
      refine bw_i2l 8 dL_rank_7 rfl ?_
      refine bw_lastU 9 dL_rank_8 rfl hf (vp_in_nI (n := 0) (N := 1) (by decide) (by decide)) (fun A2 hU => ?_)
      refine bw_goto 15 dL_rank_9 rfl ?_
      refine bw_iconst (0) 16 dL_rank_15 (by decide) rfl ?_
      exact bw_iret dL_rank_16 rfl (Nat.le_of_ble_eq_true rfl) (Nat.le_of_ble_eq_true rfl) ⟨_, rfl, rfl, by rw [hU]; exact hJ1 A1 _ hJ, fun _ => ⟨_, by rw [hU]; exact bw_up_eq, rfl⟩⟩
    · cases h
theorem w_determinant (g : bw_G) {A : bw_H} {x O k : Nat} {v : Int32} {fs : List Value} {J : bw_H → Prop} {a1 : Int32} (hb : A.2 x = some (.inr (11, fs))) (hk : k ≤ 2) (hJ1 : ∀ (A1 : bw_H) (f : Nat → Int64), J A1 → J (bw_up A1 O (bw_al g 1 f))) (hJ2 : ∀ A1 : bw_H, J A1 → ∃ f, A1.2 O = some (bw_al g 1 f)) (hC : bw_C g (bw_rm 8 20 200) mX9_determinant [.ref x, .int a1] A (fun o A1 => (k = 0 ∧ o = .inl (some (.int v)) ∨ k ≠ 0 ∧ o = .inr (exN [eIO, eIS] k)) ∧ J A1)) :
    bw_CH g (bw_rm 9 20 200) mL_determinant [.ref x, .int a1, .ref O] A (bw_pm (fun y A1 => y = nI k ∧ J A1 ∧ (k = 0 → ∃ f, A1.2 O = some (bw_al g 1 f) ∧ f 0 = v.toInt64))) := by
  refine bw_CH.of (by decide) (Nat.le_of_ble_eq_true rfl) ?_
  refine bw_aload_n 1 dL_determinant_0 rfl rfl ?_
  refine bw_iconst (0) 2 dL_determinant_1 (by decide) rfl ?_
  refine bw_aload_n 3 dL_determinant_2 rfl rfl ?_
  refine bw_iload_n 4 dL_determinant_3 rfl rfl ?_
  refine bw_callV 7 dL_determinant_4 rfl vL_74 hC hb rfl rfl (Nat.le_of_ble_eq_true rfl) ⟨(Nat.le_of_ble_eq_true rfl), (Nat.le_of_ble_eq_true rfl)⟩ (Nat.le_of_ble_eq_true rfl) (Nat.le_of_ble_eq_true rfl) (fun E A1 h => ?_) (fun v' A1 h => ?_)
  · obtain ⟨⟨h0, h⟩ | ⟨h0, h⟩, hJ⟩ := h
    · cases h
    · have hE := Sum.inr.inj h
      subst hE
      rcases (show k = 1 ∨ k = 2 by omega) with rfl | rfl
      · refine bw_Tcatch [] ⟨0, 9, 12, 41⟩ [⟨0, 9, 15, 49⟩] rfl (fun z hz => absurd hz List.not_mem_nil) rfl (by decide) kl_41 kc_41 (fun q => ?_)
        refine bw_astore_n 13 dL_determinant_12 rfl (by decide) ?_
        refine bw_iconst (1) 14 dL_determinant_13 (by decide) rfl ?_
        exact bw_iret dL_determinant_14 rfl (Nat.le_of_ble_eq_true rfl) (Nat.le_of_ble_eq_true rfl) ⟨_, rfl, rfl, hJ, fun h => absurd h (by decide)⟩
      · refine bw_Tcatch [⟨0, 9, 12, 41⟩] ⟨0, 9, 15, 49⟩ [] rfl (fun z hz => by rw [List.mem_singleton.mp hz]; exact Or.inr ⟨by decide, _, kl_41, by decide +kernel⟩) rfl (by decide) kl_49 kc_49 (fun q => ?_)
        refine bw_astore_n 16 dL_determinant_15 rfl (by decide) ?_
        refine bw_iconst (2) 17 dL_determinant_16 (by decide) rfl ?_
        exact bw_iret dL_determinant_17 rfl (Nat.le_of_ble_eq_true rfl) (Nat.le_of_ble_eq_true rfl) ⟨_, rfl, rfl, hJ, fun h => absurd h (by decide)⟩
  · obtain ⟨⟨h0, h⟩ | ⟨h0, h⟩, hJ⟩ := h
    · have hv := Sum.inl.inj h
      subst hv
      subst h0
      obtain ⟨f, hf⟩ := hJ2 A1 hJ
      refine bw_i2l 8 dL_determinant_7 rfl ?_
      refine bw_lastU 9 dL_determinant_8 rfl hf (vp_in_nI (n := 0) (N := 1) (by decide) (by decide)) (fun A2 hU => ?_)
      refine bw_goto 18 dL_determinant_9 rfl ?_
      refine bw_iconst (0) 19 dL_determinant_18 (by decide) rfl ?_
      exact bw_iret dL_determinant_19 rfl (Nat.le_of_ble_eq_true rfl) (Nat.le_of_ble_eq_true rfl) ⟨_, rfl, rfl, by rw [hU]; exact hJ1 A1 _ hJ, fun _ => ⟨_, by rw [hU]; exact bw_up_eq, rfl⟩⟩
    · cases h
theorem w_singular (g : bw_G) {A : bw_H} {x O k : Nat} {v : Int32} {fs : List Value} {J : bw_H → Prop} {a1 : Int32} (hb : A.2 x = some (.inr (11, fs))) (hk : k ≤ 1) (hJ1 : ∀ (A1 : bw_H) (f : Nat → Int64), J A1 → J (bw_up A1 O (bw_al g 1 f))) (hJ2 : ∀ A1 : bw_H, J A1 → ∃ f, A1.2 O = some (bw_al g 1 f)) (hC : bw_C g (bw_rm 8 20 200) mX9_singular [.ref x, .int a1] A (fun o A1 => (k = 0 ∧ o = .inl (some (.int v)) ∨ k ≠ 0 ∧ o = .inr (exN [eIO] k)) ∧ J A1)) :
    bw_CH g (bw_rm 9 20 200) mL_singular [.ref x, .int a1, .ref O] A (bw_pm (fun y A1 => y = nI k ∧ J A1 ∧ (k = 0 → ∃ f, A1.2 O = some (bw_al g 1 f) ∧ f 0 = v.toInt64))) := by
  refine bw_CH.of (by decide) (Nat.le_of_ble_eq_true rfl) ?_
  refine bw_aload_n 1 dL_singular_0 rfl rfl ?_
  refine bw_iconst (0) 2 dL_singular_1 (by decide) rfl ?_
  refine bw_aload_n 3 dL_singular_2 rfl rfl ?_
  refine bw_iload_n 4 dL_singular_3 rfl rfl ?_
  refine bw_callV 7 dL_singular_4 rfl vL_77 hC hb rfl rfl (Nat.le_of_ble_eq_true rfl) ⟨(Nat.le_of_ble_eq_true rfl), (Nat.le_of_ble_eq_true rfl)⟩ (Nat.le_of_ble_eq_true rfl) (Nat.le_of_ble_eq_true rfl) (fun E A1 h => ?_) (fun v' A1 h => ?_)
  · obtain ⟨⟨h0, h⟩ | ⟨h0, h⟩, hJ⟩ := h
    · cases h
    · have hE := Sum.inr.inj h
      subst hE
      have h1 : k = 1 := by omega
      subst h1
      refine bw_Tcatch [] ⟨0, 9, 12, 41⟩ [] rfl (fun z hz => absurd hz List.not_mem_nil) rfl (by decide) kl_41 kc_41 (fun q => ?_)
      refine bw_astore_n 13 dL_singular_12 rfl (by decide) ?_
      refine bw_iconst (1) 14 dL_singular_13 (by decide) rfl ?_
      exact bw_iret dL_singular_14 rfl (Nat.le_of_ble_eq_true rfl) (Nat.le_of_ble_eq_true rfl) ⟨_, rfl, rfl, hJ, fun h => absurd h (by decide)⟩
  · obtain ⟨⟨h0, h⟩ | ⟨h0, h⟩, hJ⟩ := h
    · have hv := Sum.inl.inj h
      subst hv
      subst h0
      obtain ⟨f, hf⟩ := hJ2 A1 hJ
      refine bw_i2l 8 dL_singular_7 rfl ?_
      refine bw_lastU 9 dL_singular_8 rfl hf (vp_in_nI (n := 0) (N := 1) (by decide) (by decide)) (fun A2 hU => ?_)
      refine bw_goto 15 dL_singular_9 rfl ?_
      refine bw_iconst (0) 16 dL_singular_15 (by decide) rfl ?_
      exact bw_iret dL_singular_16 rfl (Nat.le_of_ble_eq_true rfl) (Nat.le_of_ble_eq_true rfl) ⟨_, rfl, rfl, by rw [hU]; exact hJ1 A1 _ hJ, fun _ => ⟨_, by rw [hU]; exact bw_up_eq, rfl⟩⟩
    · cases h
theorem w_solve (g : bw_G) {A : bw_H} {x O k : Nat} {v : Int32} {fs : List Value} {J : bw_H → Prop} {a1 : Int32} (hb : A.2 x = some (.inr (11, fs))) (hk : k ≤ 2) (hJ1 : ∀ (A1 : bw_H) (f : Nat → Int64), J A1 → J (bw_up A1 O (bw_al g 1 f))) (hJ2 : ∀ A1 : bw_H, J A1 → ∃ f, A1.2 O = some (bw_al g 1 f)) (hC : bw_C g (bw_rm 8 20 200) mX9_solve [.ref x, .int a1] A (fun o A1 => (k = 0 ∧ o = .inl (some (.int v)) ∨ k ≠ 0 ∧ o = .inr (exN [eIO, eIS] k)) ∧ J A1)) :
    bw_CH g (bw_rm 9 20 200) mL_solve [.ref x, .int a1, .ref O] A (bw_pm (fun y A1 => y = nI k ∧ J A1 ∧ (k = 0 → ∃ f, A1.2 O = some (bw_al g 1 f) ∧ f 0 = v.toInt64))) := by
  refine bw_CH.of (by decide) (Nat.le_of_ble_eq_true rfl) ?_
  refine bw_aload_n 1 dL_solve_0 rfl rfl ?_
  refine bw_iconst (0) 2 dL_solve_1 (by decide) rfl ?_
  refine bw_aload_n 3 dL_solve_2 rfl rfl ?_
  refine bw_iload_n 4 dL_solve_3 rfl rfl ?_
  refine bw_callV 7 dL_solve_4 rfl vL_80 hC hb rfl rfl (Nat.le_of_ble_eq_true rfl) ⟨(Nat.le_of_ble_eq_true rfl), (Nat.le_of_ble_eq_true rfl)⟩ (Nat.le_of_ble_eq_true rfl) (Nat.le_of_ble_eq_true rfl) (fun E A1 h => ?_) (fun v' A1 h => ?_)
  · obtain ⟨⟨h0, h⟩ | ⟨h0, h⟩, hJ⟩ := h
    · cases h
    · have hE := Sum.inr.inj h
      subst hE
      rcases (show k = 1 ∨ k = 2 by omega) with rfl | rfl
      · refine bw_Tcatch [] ⟨0, 9, 12, 41⟩ [⟨0, 9, 15, 49⟩] rfl (fun z hz => absurd hz List.not_mem_nil) rfl (by decide) kl_41 kc_41 (fun q => ?_)
        refine bw_astore_n 13 dL_solve_12 rfl (by decide) ?_
        refine bw_iconst (1) 14 dL_solve_13 (by decide) rfl ?_
        exact bw_iret dL_solve_14 rfl (Nat.le_of_ble_eq_true rfl) (Nat.le_of_ble_eq_true rfl) ⟨_, rfl, rfl, hJ, fun h => absurd h (by decide)⟩
      · refine bw_Tcatch [⟨0, 9, 12, 41⟩] ⟨0, 9, 15, 49⟩ [] rfl (fun z hz => by rw [List.mem_singleton.mp hz]; exact Or.inr ⟨by decide, _, kl_41, by decide +kernel⟩) rfl (by decide) kl_49 kc_49 (fun q => ?_)
        refine bw_astore_n 16 dL_solve_15 rfl (by decide) ?_
        refine bw_iconst (2) 17 dL_solve_16 (by decide) rfl ?_
        exact bw_iret dL_solve_17 rfl (Nat.le_of_ble_eq_true rfl) (Nat.le_of_ble_eq_true rfl) ⟨_, rfl, rfl, hJ, fun h => absurd h (by decide)⟩
  · obtain ⟨⟨h0, h⟩ | ⟨h0, h⟩, hJ⟩ := h
    · have hv := Sum.inl.inj h
      subst hv
      subst h0
      obtain ⟨f, hf⟩ := hJ2 A1 hJ
      refine bw_i2l 8 dL_solve_7 rfl ?_
      refine bw_lastU 9 dL_solve_8 rfl hf (vp_in_nI (n := 0) (N := 1) (by decide) (by decide)) (fun A2 hU => ?_)
      refine bw_goto 18 dL_solve_9 rfl ?_
      refine bw_iconst (0) 19 dL_solve_18 (by decide) rfl ?_
      exact bw_iret dL_solve_19 rfl (Nat.le_of_ble_eq_true rfl) (Nat.le_of_ble_eq_true rfl) ⟨_, rfl, rfl, by rw [hU]; exact hJ1 A1 _ hJ, fun _ => ⟨_, by rw [hU]; exact bw_up_eq, rfl⟩⟩
    · cases h
theorem w_polynomial (g : bw_G) {A : bw_H} {x O k : Nat} {v : Int32} {fs : List Value} {J : bw_H → Prop}  (hb : A.2 x = some (.inr (11, fs))) (hk : k ≤ 1) (hJ1 : ∀ (A1 : bw_H) (f : Nat → Int64), J A1 → J (bw_up A1 O (bw_al g 1 f))) (hJ2 : ∀ A1 : bw_H, J A1 → ∃ f, A1.2 O = some (bw_al g 1 f)) (hC : bw_C g (bw_rm 8 20 200) mX9_polynomial [.ref x] A (fun o A1 => (k = 0 ∧ o = .inl (some (.int v)) ∨ k ≠ 0 ∧ o = .inr (exN [eUO] k)) ∧ J A1)) :
    bw_CH g (bw_rm 9 20 200) mL_polynomial [.ref x, .ref O] A (bw_pm (fun y A1 => y = nI k ∧ J A1 ∧ (k = 0 → ∃ f, A1.2 O = some (bw_al g 1 f) ∧ f 0 = v.toInt64))) := by
  refine bw_CH.of (by decide) (Nat.le_of_ble_eq_true rfl) ?_
  refine bw_aload_n 1 dL_polynomial_0 rfl rfl ?_
  refine bw_iconst (0) 2 dL_polynomial_1 (by decide) rfl ?_
  refine bw_aload_n 3 dL_polynomial_2 rfl rfl ?_
  refine bw_callV 6 dL_polynomial_3 rfl vL_83 hC hb rfl rfl (Nat.le_of_ble_eq_true rfl) ⟨(Nat.le_of_ble_eq_true rfl), (Nat.le_of_ble_eq_true rfl)⟩ (Nat.le_of_ble_eq_true rfl) (Nat.le_of_ble_eq_true rfl) (fun E A1 h => ?_) (fun v' A1 h => ?_)
  · obtain ⟨⟨h0, h⟩ | ⟨h0, h⟩, hJ⟩ := h
    · cases h
    · have hE := Sum.inr.inj h
      subst hE
      have h1 : k = 1 := by omega
      subst h1
      refine bw_Tcatch [] ⟨0, 8, 11, 36⟩ [] rfl (fun z hz => absurd hz List.not_mem_nil) rfl (by decide) kl_36 kc_36 (fun q => ?_)
      refine bw_astore_n 12 dL_polynomial_11 rfl (by decide) ?_
      refine bw_iconst (1) 13 dL_polynomial_12 (by decide) rfl ?_
      exact bw_iret dL_polynomial_13 rfl (Nat.le_of_ble_eq_true rfl) (Nat.le_of_ble_eq_true rfl) ⟨_, rfl, rfl, hJ, fun h => absurd h (by decide)⟩
  · obtain ⟨⟨h0, h⟩ | ⟨h0, h⟩, hJ⟩ := h
    · have hv := Sum.inl.inj h
      subst hv
      subst h0
      obtain ⟨f, hf⟩ := hJ2 A1 hJ
      refine bw_i2l 7 dL_polynomial_6 rfl ?_
      refine bw_lastU 8 dL_polynomial_7 rfl hf (vp_in_nI (n := 0) (N := 1) (by decide) (by decide)) (fun A2 hU => ?_)
      refine bw_goto 14 dL_polynomial_8 rfl ?_
      refine bw_iconst (0) 15 dL_polynomial_14 (by decide) rfl ?_
      exact bw_iret dL_polynomial_15 rfl (Nat.le_of_ble_eq_true rfl) (Nat.le_of_ble_eq_true rfl) ⟨_, rfl, rfl, by rw [hU]; exact hJ1 A1 _ hJ, fun _ => ⟨_, by rw [hU]; exact bw_up_eq, rfl⟩⟩
    · cases h
theorem w_through (g : bw_G) {A : bw_H} {x O k : Nat} {v : Int32} {fs : List Value} {J : bw_H → Prop}  (hb : A.2 x = some (.inr (11, fs))) (hk : k ≤ 2) (hJ1 : ∀ (A1 : bw_H) (f : Nat → Int64), J A1 → J (bw_up A1 O (bw_al g 1 f))) (hJ2 : ∀ A1 : bw_H, J A1 → ∃ f, A1.2 O = some (bw_al g 1 f)) (hC : bw_C g (bw_rm 8 20 200) mX9_through [.ref x] A (fun o A1 => (k = 0 ∧ o = .inl (some (.int v)) ∨ k ≠ 0 ∧ o = .inr (exN [eIS, eUO] k)) ∧ J A1)) :
    bw_CH g (bw_rm 9 20 200) mL_through [.ref x, .ref O] A (bw_pm (fun y A1 => y = nI k ∧ J A1 ∧ (k = 0 → ∃ f, A1.2 O = some (bw_al g 1 f) ∧ f 0 = v.toInt64))) := by
  refine bw_CH.of (by decide) (Nat.le_of_ble_eq_true rfl) ?_
  refine bw_aload_n 1 dL_through_0 rfl rfl ?_
  refine bw_iconst (0) 2 dL_through_1 (by decide) rfl ?_
  refine bw_aload_n 3 dL_through_2 rfl rfl ?_
  refine bw_callV 6 dL_through_3 rfl vL_87 hC hb rfl rfl (Nat.le_of_ble_eq_true rfl) ⟨(Nat.le_of_ble_eq_true rfl), (Nat.le_of_ble_eq_true rfl)⟩ (Nat.le_of_ble_eq_true rfl) (Nat.le_of_ble_eq_true rfl) (fun E A1 h => ?_) (fun v' A1 h => ?_)
  · obtain ⟨⟨h0, h⟩ | ⟨h0, h⟩, hJ⟩ := h
    · cases h
    · have hE := Sum.inr.inj h
      subst hE
      rcases (show k = 1 ∨ k = 2 by omega) with rfl | rfl
      · refine bw_Tcatch [] ⟨0, 8, 11, 49⟩ [⟨0, 8, 14, 36⟩] rfl (fun z hz => absurd hz List.not_mem_nil) rfl (by decide) kl_49 kc_49 (fun q => ?_)
        refine bw_astore_n 12 dL_through_11 rfl (by decide) ?_
        refine bw_iconst (1) 13 dL_through_12 (by decide) rfl ?_
        exact bw_iret dL_through_13 rfl (Nat.le_of_ble_eq_true rfl) (Nat.le_of_ble_eq_true rfl) ⟨_, rfl, rfl, hJ, fun h => absurd h (by decide)⟩
      · refine bw_Tcatch [⟨0, 8, 11, 49⟩] ⟨0, 8, 14, 36⟩ [] rfl (fun z hz => by rw [List.mem_singleton.mp hz]; exact Or.inr ⟨by decide, _, kl_49, by decide +kernel⟩) rfl (by decide) kl_36 kc_36 (fun q => ?_)
        refine bw_astore_n 15 dL_through_14 rfl (by decide) ?_
        refine bw_iconst (2) 16 dL_through_15 (by decide) rfl ?_
        exact bw_iret dL_through_16 rfl (Nat.le_of_ble_eq_true rfl) (Nat.le_of_ble_eq_true rfl) ⟨_, rfl, rfl, hJ, fun h => absurd h (by decide)⟩
  · obtain ⟨⟨h0, h⟩ | ⟨h0, h⟩, hJ⟩ := h
    · have hv := Sum.inl.inj h
      subst hv
      subst h0
      obtain ⟨f, hf⟩ := hJ2 A1 hJ
      refine bw_i2l 7 dL_through_6 rfl ?_
      refine bw_lastU 8 dL_through_7 rfl hf (vp_in_nI (n := 0) (N := 1) (by decide) (by decide)) (fun A2 hU => ?_)
      refine bw_goto 17 dL_through_8 rfl ?_
      refine bw_iconst (0) 18 dL_through_17 (by decide) rfl ?_
      exact bw_iret dL_through_18 rfl (Nat.le_of_ble_eq_true rfl) (Nat.le_of_ble_eq_true rfl) ⟨_, rfl, rfl, by rw [hU]; exact hJ1 A1 _ hJ, fun _ => ⟨_, by rw [hU]; exact bw_up_eq, rfl⟩⟩
    · cases h
theorem w_degree (g : bw_G) {A : bw_H} {x O k : Nat} {v : Int32} {fs : List Value} {J : bw_H → Prop} {a1 : Int32} (hb : A.2 x = some (.inr (11, fs))) (hk : k ≤ 1) (hJ1 : ∀ (A1 : bw_H) (f : Nat → Int64), J A1 → J (bw_up A1 O (bw_al g 1 f))) (hJ2 : ∀ A1 : bw_H, J A1 → ∃ f, A1.2 O = some (bw_al g 1 f)) (hC : bw_C g (bw_rm 8 20 200) mX9_degree [.ref x, .int a1] A (fun o A1 => (k = 0 ∧ o = .inl (some (.int v)) ∨ k ≠ 0 ∧ o = .inr (exN [eIO] k)) ∧ J A1)) :
    bw_CH g (bw_rm 9 20 200) mL_degree [.ref x, .int a1, .ref O] A (bw_pm (fun y A1 => y = nI k ∧ J A1 ∧ (k = 0 → ∃ f, A1.2 O = some (bw_al g 1 f) ∧ f 0 = v.toInt64))) := by
  refine bw_CH.of (by decide) (Nat.le_of_ble_eq_true rfl) ?_
  refine bw_aload_n 1 dL_degree_0 rfl rfl ?_
  refine bw_iconst (0) 2 dL_degree_1 (by decide) rfl ?_
  refine bw_aload_n 3 dL_degree_2 rfl rfl ?_
  refine bw_iload_n 4 dL_degree_3 rfl rfl ?_
  refine bw_callV 7 dL_degree_4 rfl vL_90 hC hb rfl rfl (Nat.le_of_ble_eq_true rfl) ⟨(Nat.le_of_ble_eq_true rfl), (Nat.le_of_ble_eq_true rfl)⟩ (Nat.le_of_ble_eq_true rfl) (Nat.le_of_ble_eq_true rfl) (fun E A1 h => ?_) (fun v' A1 h => ?_)
  · obtain ⟨⟨h0, h⟩ | ⟨h0, h⟩, hJ⟩ := h
    · cases h
    · have hE := Sum.inr.inj h
      subst hE
      have h1 : k = 1 := by omega
      subst h1
      refine bw_Tcatch [] ⟨0, 9, 12, 41⟩ [] rfl (fun z hz => absurd hz List.not_mem_nil) rfl (by decide) kl_41 kc_41 (fun q => ?_)
      refine bw_astore_n 13 dL_degree_12 rfl (by decide) ?_
      refine bw_iconst (1) 14 dL_degree_13 (by decide) rfl ?_
      exact bw_iret dL_degree_14 rfl (Nat.le_of_ble_eq_true rfl) (Nat.le_of_ble_eq_true rfl) ⟨_, rfl, rfl, hJ, fun h => absurd h (by decide)⟩
  · obtain ⟨⟨h0, h⟩ | ⟨h0, h⟩, hJ⟩ := h
    · have hv := Sum.inl.inj h
      subst hv
      subst h0
      obtain ⟨f, hf⟩ := hJ2 A1 hJ
      refine bw_i2l 8 dL_degree_7 rfl ?_
      refine bw_lastU 9 dL_degree_8 rfl hf (vp_in_nI (n := 0) (N := 1) (by decide) (by decide)) (fun A2 hU => ?_)
      refine bw_goto 15 dL_degree_9 rfl ?_
      refine bw_iconst (0) 16 dL_degree_15 (by decide) rfl ?_
      exact bw_iret dL_degree_16 rfl (Nat.le_of_ble_eq_true rfl) (Nat.le_of_ble_eq_true rfl) ⟨_, rfl, rfl, by rw [hU]; exact hJ1 A1 _ hJ, fun _ => ⟨_, by rw [hU]; exact bw_up_eq, rfl⟩⟩
    · cases h
theorem w_coefficient (g : bw_G) {A : bw_H} {x O k : Nat} {v : Int32} {fs : List Value} {J : bw_H → Prop} {a1 : Int32} {a2 : Int32} (hb : A.2 x = some (.inr (11, fs))) (hk : k ≤ 1) (hJ1 : ∀ (A1 : bw_H) (f : Nat → Int64), J A1 → J (bw_up A1 O (bw_al g 1 f))) (hJ2 : ∀ A1 : bw_H, J A1 → ∃ f, A1.2 O = some (bw_al g 1 f)) (hC : bw_C g (bw_rm 8 20 200) mX9_coefficient [.ref x, .int a1, .int a2] A (fun o A1 => (k = 0 ∧ o = .inl (some (.int v)) ∨ k ≠ 0 ∧ o = .inr (exN [eIO] k)) ∧ J A1)) :
    bw_CH g (bw_rm 9 20 200) mL_coefficient [.ref x, .int a1, .int a2, .ref O] A (bw_pm (fun y A1 => y = nI k ∧ J A1 ∧ (k = 0 → ∃ f, A1.2 O = some (bw_al g 1 f) ∧ f 0 = v.toInt64))) := by
  refine bw_CH.of (by decide) (Nat.le_of_ble_eq_true rfl) ?_
  refine bw_aload_n 1 dL_coefficient_0 rfl rfl ?_
  refine bw_iconst (0) 2 dL_coefficient_1 (by decide) rfl ?_
  refine bw_aload_n 3 dL_coefficient_2 rfl rfl ?_
  refine bw_iload_n 4 dL_coefficient_3 rfl rfl ?_
  refine bw_iload_n 5 dL_coefficient_4 rfl rfl ?_
  refine bw_callV 8 dL_coefficient_5 rfl vL_93 hC hb rfl rfl (Nat.le_of_ble_eq_true rfl) ⟨(Nat.le_of_ble_eq_true rfl), (Nat.le_of_ble_eq_true rfl)⟩ (Nat.le_of_ble_eq_true rfl) (Nat.le_of_ble_eq_true rfl) (fun E A1 h => ?_) (fun v' A1 h => ?_)
  · obtain ⟨⟨h0, h⟩ | ⟨h0, h⟩, hJ⟩ := h
    · cases h
    · have hE := Sum.inr.inj h
      subst hE
      have h1 : k = 1 := by omega
      subst h1
      refine bw_Tcatch [] ⟨0, 10, 13, 41⟩ [] rfl (fun z hz => absurd hz List.not_mem_nil) rfl (by decide) kl_41 kc_41 (fun q => ?_)
      refine bw_astore 15 dL_coefficient_13 rfl (by decide) ?_
      refine bw_iconst (1) 16 dL_coefficient_15 (by decide) rfl ?_
      exact bw_iret dL_coefficient_16 rfl (Nat.le_of_ble_eq_true rfl) (Nat.le_of_ble_eq_true rfl) ⟨_, rfl, rfl, hJ, fun h => absurd h (by decide)⟩
  · obtain ⟨⟨h0, h⟩ | ⟨h0, h⟩, hJ⟩ := h
    · have hv := Sum.inl.inj h
      subst hv
      subst h0
      obtain ⟨f, hf⟩ := hJ2 A1 hJ
      refine bw_i2l 9 dL_coefficient_8 rfl ?_
      refine bw_lastU 10 dL_coefficient_9 rfl hf (vp_in_nI (n := 0) (N := 1) (by decide) (by decide)) (fun A2 hU => ?_)
      refine bw_goto 17 dL_coefficient_10 rfl ?_
      refine bw_iconst (0) 18 dL_coefficient_17 (by decide) rfl ?_
      exact bw_iret dL_coefficient_18 rfl (Nat.le_of_ble_eq_true rfl) (Nat.le_of_ble_eq_true rfl) ⟨_, rfl, rfl, by rw [hU]; exact hJ1 A1 _ hJ, fun _ => ⟨_, by rw [hU]; exact bw_up_eq, rfl⟩⟩
    · cases h
theorem w_value (g : bw_G) {A : bw_H} {x O k : Nat} {v : Int32} {fs : List Value} {J : bw_H → Prop} {a1 : Int32} {a2 : Int32} (hb : A.2 x = some (.inr (11, fs))) (hk : k ≤ 2) (hJ1 : ∀ (A1 : bw_H) (f : Nat → Int64), J A1 → J (bw_up A1 O (bw_al g 1 f))) (hJ2 : ∀ A1 : bw_H, J A1 → ∃ f, A1.2 O = some (bw_al g 1 f)) (hC : bw_C g (bw_rm 8 20 200) mX9_value [.ref x, .int a1, .int a2] A (fun o A1 => (k = 0 ∧ o = .inl (some (.int v)) ∨ k ≠ 0 ∧ o = .inr (exN [eIO, eIA] k)) ∧ J A1)) :
    bw_CH g (bw_rm 9 20 200) mL_value [.ref x, .int a1, .int a2, .ref O] A (bw_pm (fun y A1 => y = nI k ∧ J A1 ∧ (k = 0 → ∃ f, A1.2 O = some (bw_al g 1 f) ∧ f 0 = v.toInt64))) := by
  refine bw_CH.of (by decide) (Nat.le_of_ble_eq_true rfl) ?_
  refine bw_aload_n 1 dL_value_0 rfl rfl ?_
  refine bw_iconst (0) 2 dL_value_1 (by decide) rfl ?_
  refine bw_aload_n 3 dL_value_2 rfl rfl ?_
  refine bw_iload_n 4 dL_value_3 rfl rfl ?_
  refine bw_iload_n 5 dL_value_4 rfl rfl ?_
  refine bw_callV 8 dL_value_5 rfl vL_96 hC hb rfl rfl (Nat.le_of_ble_eq_true rfl) ⟨(Nat.le_of_ble_eq_true rfl), (Nat.le_of_ble_eq_true rfl)⟩ (Nat.le_of_ble_eq_true rfl) (Nat.le_of_ble_eq_true rfl) (fun E A1 h => ?_) (fun v' A1 h => ?_)
  · obtain ⟨⟨h0, h⟩ | ⟨h0, h⟩, hJ⟩ := h
    · cases h
    · have hE := Sum.inr.inj h
      subst hE
      rcases (show k = 1 ∨ k = 2 by omega) with rfl | rfl
      · refine bw_Tcatch [] ⟨0, 10, 13, 41⟩ [⟨0, 10, 17, 13⟩] rfl (fun z hz => absurd hz List.not_mem_nil) rfl (by decide) kl_41 kc_41 (fun q => ?_)
        refine bw_astore 15 dL_value_13 rfl (by decide) ?_
        refine bw_iconst (1) 16 dL_value_15 (by decide) rfl ?_
        exact bw_iret dL_value_16 rfl (Nat.le_of_ble_eq_true rfl) (Nat.le_of_ble_eq_true rfl) ⟨_, rfl, rfl, hJ, fun h => absurd h (by decide)⟩
      · refine bw_Tcatch [⟨0, 10, 13, 41⟩] ⟨0, 10, 17, 13⟩ [] rfl (fun z hz => by rw [List.mem_singleton.mp hz]; exact Or.inr ⟨by decide, _, kl_41, by decide +kernel⟩) rfl (by decide) kl_13 kc_13 (fun q => ?_)
        refine bw_astore 19 dL_value_17 rfl (by decide) ?_
        refine bw_iconst (2) 20 dL_value_19 (by decide) rfl ?_
        exact bw_iret dL_value_20 rfl (Nat.le_of_ble_eq_true rfl) (Nat.le_of_ble_eq_true rfl) ⟨_, rfl, rfl, hJ, fun h => absurd h (by decide)⟩
  · obtain ⟨⟨h0, h⟩ | ⟨h0, h⟩, hJ⟩ := h
    · have hv := Sum.inl.inj h
      subst hv
      subst h0
      obtain ⟨f, hf⟩ := hJ2 A1 hJ
      refine bw_i2l 9 dL_value_8 rfl ?_
      refine bw_lastU 10 dL_value_9 rfl hf (vp_in_nI (n := 0) (N := 1) (by decide) (by decide)) (fun A2 hU => ?_)
      refine bw_goto 21 dL_value_10 rfl ?_
      refine bw_iconst (0) 22 dL_value_21 (by decide) rfl ?_
      exact bw_iret dL_value_22 rfl (Nat.le_of_ble_eq_true rfl) (Nat.le_of_ble_eq_true rfl) ⟨_, rfl, rfl, by rw [hU]; exact hJ1 A1 _ hJ, fun _ => ⟨_, by rw [hU]; exact bw_up_eq, rfl⟩⟩
    · cases h
theorem w_plus (g : bw_G) {A : bw_H} {x O k : Nat} {v : Int32} {fs : List Value} {J : bw_H → Prop} {a1 : Int32} {a2 : Int32} (hb : A.2 x = some (.inr (11, fs))) (hk : k ≤ 2) (hJ1 : ∀ (A1 : bw_H) (f : Nat → Int64), J A1 → J (bw_up A1 O (bw_al g 1 f))) (hJ2 : ∀ A1 : bw_H, J A1 → ∃ f, A1.2 O = some (bw_al g 1 f)) (hC : bw_C g (bw_rm 8 20 200) mX9_plus [.ref x, .int a1, .int a2] A (fun o A1 => (k = 0 ∧ o = .inl (some (.int v)) ∨ k ≠ 0 ∧ o = .inr (exN [eIO, eUO] k)) ∧ J A1)) :
    bw_CH g (bw_rm 9 20 200) mL_plus [.ref x, .int a1, .int a2, .ref O] A (bw_pm (fun y A1 => y = nI k ∧ J A1 ∧ (k = 0 → ∃ f, A1.2 O = some (bw_al g 1 f) ∧ f 0 = v.toInt64))) := by
  refine bw_CH.of (by decide) (Nat.le_of_ble_eq_true rfl) ?_
  refine bw_aload_n 1 dL_plus_0 rfl rfl ?_
  refine bw_iconst (0) 2 dL_plus_1 (by decide) rfl ?_
  refine bw_aload_n 3 dL_plus_2 rfl rfl ?_
  refine bw_iload_n 4 dL_plus_3 rfl rfl ?_
  refine bw_iload_n 5 dL_plus_4 rfl rfl ?_
  refine bw_callV 8 dL_plus_5 rfl vL_99 hC hb rfl rfl (Nat.le_of_ble_eq_true rfl) ⟨(Nat.le_of_ble_eq_true rfl), (Nat.le_of_ble_eq_true rfl)⟩ (Nat.le_of_ble_eq_true rfl) (Nat.le_of_ble_eq_true rfl) (fun E A1 h => ?_) (fun v' A1 h => ?_)
  · obtain ⟨⟨h0, h⟩ | ⟨h0, h⟩, hJ⟩ := h
    · cases h
    · have hE := Sum.inr.inj h
      subst hE
      rcases (show k = 1 ∨ k = 2 by omega) with rfl | rfl
      · refine bw_Tcatch [] ⟨0, 10, 13, 41⟩ [⟨0, 10, 17, 36⟩] rfl (fun z hz => absurd hz List.not_mem_nil) rfl (by decide) kl_41 kc_41 (fun q => ?_)
        refine bw_astore 15 dL_plus_13 rfl (by decide) ?_
        refine bw_iconst (1) 16 dL_plus_15 (by decide) rfl ?_
        exact bw_iret dL_plus_16 rfl (Nat.le_of_ble_eq_true rfl) (Nat.le_of_ble_eq_true rfl) ⟨_, rfl, rfl, hJ, fun h => absurd h (by decide)⟩
      · refine bw_Tcatch [⟨0, 10, 13, 41⟩] ⟨0, 10, 17, 36⟩ [] rfl (fun z hz => by rw [List.mem_singleton.mp hz]; exact Or.inr ⟨by decide, _, kl_41, by decide +kernel⟩) rfl (by decide) kl_36 kc_36 (fun q => ?_)
        refine bw_astore 19 dL_plus_17 rfl (by decide) ?_
        refine bw_iconst (2) 20 dL_plus_19 (by decide) rfl ?_
        exact bw_iret dL_plus_20 rfl (Nat.le_of_ble_eq_true rfl) (Nat.le_of_ble_eq_true rfl) ⟨_, rfl, rfl, hJ, fun h => absurd h (by decide)⟩
  · obtain ⟨⟨h0, h⟩ | ⟨h0, h⟩, hJ⟩ := h
    · have hv := Sum.inl.inj h
      subst hv
      subst h0
      obtain ⟨f, hf⟩ := hJ2 A1 hJ
      refine bw_i2l 9 dL_plus_8 rfl ?_
      refine bw_lastU 10 dL_plus_9 rfl hf (vp_in_nI (n := 0) (N := 1) (by decide) (by decide)) (fun A2 hU => ?_)
      refine bw_goto 21 dL_plus_10 rfl ?_
      refine bw_iconst (0) 22 dL_plus_21 (by decide) rfl ?_
      exact bw_iret dL_plus_22 rfl (Nat.le_of_ble_eq_true rfl) (Nat.le_of_ble_eq_true rfl) ⟨_, rfl, rfl, by rw [hU]; exact hJ1 A1 _ hJ, fun _ => ⟨_, by rw [hU]; exact bw_up_eq, rfl⟩⟩
    · cases h
theorem w_multiply (g : bw_G) {A : bw_H} {x O k : Nat} {v : Int32} {fs : List Value} {J : bw_H → Prop} {a1 : Int32} {a2 : Int32} (hb : A.2 x = some (.inr (11, fs))) (hk : k ≤ 2) (hJ1 : ∀ (A1 : bw_H) (f : Nat → Int64), J A1 → J (bw_up A1 O (bw_al g 1 f))) (hJ2 : ∀ A1 : bw_H, J A1 → ∃ f, A1.2 O = some (bw_al g 1 f)) (hC : bw_C g (bw_rm 8 20 200) mX9_multiply [.ref x, .int a1, .int a2] A (fun o A1 => (k = 0 ∧ o = .inl (some (.int v)) ∨ k ≠ 0 ∧ o = .inr (exN [eIO, eUO] k)) ∧ J A1)) :
    bw_CH g (bw_rm 9 20 200) mL_multiply [.ref x, .int a1, .int a2, .ref O] A (bw_pm (fun y A1 => y = nI k ∧ J A1 ∧ (k = 0 → ∃ f, A1.2 O = some (bw_al g 1 f) ∧ f 0 = v.toInt64))) := by
  refine bw_CH.of (by decide) (Nat.le_of_ble_eq_true rfl) ?_
  refine bw_aload_n 1 dL_multiply_0 rfl rfl ?_
  refine bw_iconst (0) 2 dL_multiply_1 (by decide) rfl ?_
  refine bw_aload_n 3 dL_multiply_2 rfl rfl ?_
  refine bw_iload_n 4 dL_multiply_3 rfl rfl ?_
  refine bw_iload_n 5 dL_multiply_4 rfl rfl ?_
  refine bw_callV 8 dL_multiply_5 rfl vL_102 hC hb rfl rfl (Nat.le_of_ble_eq_true rfl) ⟨(Nat.le_of_ble_eq_true rfl), (Nat.le_of_ble_eq_true rfl)⟩ (Nat.le_of_ble_eq_true rfl) (Nat.le_of_ble_eq_true rfl) (fun E A1 h => ?_) (fun v' A1 h => ?_)
  · obtain ⟨⟨h0, h⟩ | ⟨h0, h⟩, hJ⟩ := h
    · cases h
    · have hE := Sum.inr.inj h
      subst hE
      rcases (show k = 1 ∨ k = 2 by omega) with rfl | rfl
      · refine bw_Tcatch [] ⟨0, 10, 13, 41⟩ [⟨0, 10, 17, 36⟩] rfl (fun z hz => absurd hz List.not_mem_nil) rfl (by decide) kl_41 kc_41 (fun q => ?_)
        refine bw_astore 15 dL_multiply_13 rfl (by decide) ?_
        refine bw_iconst (1) 16 dL_multiply_15 (by decide) rfl ?_
        exact bw_iret dL_multiply_16 rfl (Nat.le_of_ble_eq_true rfl) (Nat.le_of_ble_eq_true rfl) ⟨_, rfl, rfl, hJ, fun h => absurd h (by decide)⟩
      · refine bw_Tcatch [⟨0, 10, 13, 41⟩] ⟨0, 10, 17, 36⟩ [] rfl (fun z hz => by rw [List.mem_singleton.mp hz]; exact Or.inr ⟨by decide, _, kl_41, by decide +kernel⟩) rfl (by decide) kl_36 kc_36 (fun q => ?_)
        refine bw_astore 19 dL_multiply_17 rfl (by decide) ?_
        refine bw_iconst (2) 20 dL_multiply_19 (by decide) rfl ?_
        exact bw_iret dL_multiply_20 rfl (Nat.le_of_ble_eq_true rfl) (Nat.le_of_ble_eq_true rfl) ⟨_, rfl, rfl, hJ, fun h => absurd h (by decide)⟩
  · obtain ⟨⟨h0, h⟩ | ⟨h0, h⟩, hJ⟩ := h
    · have hv := Sum.inl.inj h
      subst hv
      subst h0
      obtain ⟨f, hf⟩ := hJ2 A1 hJ
      refine bw_i2l 9 dL_multiply_8 rfl ?_
      refine bw_lastU 10 dL_multiply_9 rfl hf (vp_in_nI (n := 0) (N := 1) (by decide) (by decide)) (fun A2 hU => ?_)
      refine bw_goto 21 dL_multiply_10 rfl ?_
      refine bw_iconst (0) 22 dL_multiply_21 (by decide) rfl ?_
      exact bw_iret dL_multiply_22 rfl (Nat.le_of_ble_eq_true rfl) (Nat.le_of_ble_eq_true rfl) ⟨_, rfl, rfl, by rw [hU]; exact hJ1 A1 _ hJ, fun _ => ⟨_, by rw [hU]; exact bw_up_eq, rfl⟩⟩
    · cases h
theorem w_divide (g : bw_G) {A : bw_H} {x O k : Nat} {v : Int32} {fs : List Value} {J : bw_H → Prop} {a1 : Int32} {a2 : Int32} {a3 : Int32} (hb : A.2 x = some (.inr (11, fs))) (hk : k ≤ 3) (hJ1 : ∀ (A1 : bw_H) (f : Nat → Int64), J A1 → J (bw_up A1 O (bw_al g 1 f))) (hJ2 : ∀ A1 : bw_H, J A1 → ∃ f, A1.2 O = some (bw_al g 1 f)) (hC : bw_C g (bw_rm 8 20 200) mX9_divide [.ref x, .int a1, .int a2, .int a3] A (fun o A1 => (k = 0 ∧ o = .inl (some (.int v)) ∨ k ≠ 0 ∧ o = .inr (exN [eIO, eAE, eUO] k)) ∧ J A1)) :
    bw_CH g (bw_rm 9 20 200) mL_divide [.ref x, .int a1, .int a2, .int a3, .ref O] A (bw_pm (fun y A1 => y = nI k ∧ J A1 ∧ (k = 0 → ∃ f, A1.2 O = some (bw_al g 1 f) ∧ f 0 = v.toInt64))) := by
  refine bw_CH.of (by decide) (Nat.le_of_ble_eq_true rfl) ?_
  refine bw_aload 2 dL_divide_0 rfl rfl ?_
  refine bw_iconst (0) 3 dL_divide_2 (by decide) rfl ?_
  refine bw_aload_n 4 dL_divide_3 rfl rfl ?_
  refine bw_iload_n 5 dL_divide_4 rfl rfl ?_
  refine bw_iload_n 6 dL_divide_5 rfl rfl ?_
  refine bw_iload_n 7 dL_divide_6 rfl rfl ?_
  refine bw_callV 10 dL_divide_7 rfl vL_105 hC hb rfl rfl (Nat.le_of_ble_eq_true rfl) ⟨(Nat.le_of_ble_eq_true rfl), (Nat.le_of_ble_eq_true rfl)⟩ (Nat.le_of_ble_eq_true rfl) (Nat.le_of_ble_eq_true rfl) (fun E A1 h => ?_) (fun v' A1 h => ?_)
  · obtain ⟨⟨h0, h⟩ | ⟨h0, h⟩, hJ⟩ := h
    · cases h
    · have hE := Sum.inr.inj h
      subst hE
      rcases (show k = 1 ∨ k = 2 ∨ k = 3 by omega) with rfl | rfl | rfl
      · refine bw_Tcatch [] ⟨0, 12, 15, 41⟩ [⟨0, 12, 19, 18⟩, ⟨0, 12, 23, 36⟩] rfl (fun z hz => absurd hz List.not_mem_nil) rfl (by decide) kl_41 kc_41 (fun q => ?_)
        refine bw_astore 17 dL_divide_15 rfl (by decide) ?_
        refine bw_iconst (1) 18 dL_divide_17 (by decide) rfl ?_
        exact bw_iret dL_divide_18 rfl (Nat.le_of_ble_eq_true rfl) (Nat.le_of_ble_eq_true rfl) ⟨_, rfl, rfl, hJ, fun h => absurd h (by decide)⟩
      · refine bw_Tcatch [⟨0, 12, 15, 41⟩] ⟨0, 12, 19, 18⟩ [⟨0, 12, 23, 36⟩] rfl (fun z hz => by rw [List.mem_singleton.mp hz]; exact Or.inr ⟨by decide, _, kl_41, by decide +kernel⟩) rfl (by decide) kl_18 kc_18 (fun q => ?_)
        refine bw_astore 21 dL_divide_19 rfl (by decide) ?_
        refine bw_iconst (2) 22 dL_divide_21 (by decide) rfl ?_
        exact bw_iret dL_divide_22 rfl (Nat.le_of_ble_eq_true rfl) (Nat.le_of_ble_eq_true rfl) ⟨_, rfl, rfl, hJ, fun h => absurd h (by decide)⟩
      · refine bw_Tcatch [⟨0, 12, 15, 41⟩, ⟨0, 12, 19, 18⟩] ⟨0, 12, 23, 36⟩ [] rfl (fun z hz => (List.mem_cons.mp hz).elim (fun h => by rw [h]; exact Or.inr ⟨by decide, _, kl_41, by decide +kernel⟩) (fun h => by rw [List.mem_singleton.mp h]; exact Or.inr ⟨by decide, _, kl_18, by decide +kernel⟩)) rfl (by decide) kl_36 kc_36 (fun q => ?_)
        refine bw_astore 25 dL_divide_23 rfl (by decide) ?_
        refine bw_iconst (3) 26 dL_divide_25 (by decide) rfl ?_
        exact bw_iret dL_divide_26 rfl (Nat.le_of_ble_eq_true rfl) (Nat.le_of_ble_eq_true rfl) ⟨_, rfl, rfl, hJ, fun h => absurd h (by decide)⟩
  · obtain ⟨⟨h0, h⟩ | ⟨h0, h⟩, hJ⟩ := h
    · have hv := Sum.inl.inj h
      subst hv
      subst h0
      obtain ⟨f, hf⟩ := hJ2 A1 hJ
      refine bw_i2l 11 dL_divide_10 rfl ?_
      refine bw_lastU 12 dL_divide_11 rfl hf (vp_in_nI (n := 0) (N := 1) (by decide) (by decide)) (fun A2 hU => ?_)
      refine bw_goto 27 dL_divide_12 rfl ?_
      refine bw_iconst (0) 28 dL_divide_27 (by decide) rfl ?_
      exact bw_iret dL_divide_28 rfl (Nat.le_of_ble_eq_true rfl) (Nat.le_of_ble_eq_true rfl) ⟨_, rfl, rfl, by rw [hU]; exact hJ1 A1 _ hJ, fun _ => ⟨_, by rw [hU]; exact bw_up_eq, rfl⟩⟩
    · cases h
theorem w_common (g : bw_G) {A : bw_H} {x O k : Nat} {v : Int32} {fs : List Value} {J : bw_H → Prop} {a1 : Int32} {a2 : Int32} (hb : A.2 x = some (.inr (11, fs))) (hk : k ≤ 2) (hJ1 : ∀ (A1 : bw_H) (f : Nat → Int64), J A1 → J (bw_up A1 O (bw_al g 1 f))) (hJ2 : ∀ A1 : bw_H, J A1 → ∃ f, A1.2 O = some (bw_al g 1 f)) (hC : bw_C g (bw_rm 8 20 200) mX9_common [.ref x, .int a1, .int a2] A (fun o A1 => (k = 0 ∧ o = .inl (some (.int v)) ∨ k ≠ 0 ∧ o = .inr (exN [eIO, eUO] k)) ∧ J A1)) :
    bw_CH g (bw_rm 9 20 200) mL_common [.ref x, .int a1, .int a2, .ref O] A (bw_pm (fun y A1 => y = nI k ∧ J A1 ∧ (k = 0 → ∃ f, A1.2 O = some (bw_al g 1 f) ∧ f 0 = v.toInt64))) := by
  refine bw_CH.of (by decide) (Nat.le_of_ble_eq_true rfl) ?_
  refine bw_aload_n 1 dL_common_0 rfl rfl ?_
  refine bw_iconst (0) 2 dL_common_1 (by decide) rfl ?_
  refine bw_aload_n 3 dL_common_2 rfl rfl ?_
  refine bw_iload_n 4 dL_common_3 rfl rfl ?_
  refine bw_iload_n 5 dL_common_4 rfl rfl ?_
  refine bw_callV 8 dL_common_5 rfl vL_109 hC hb rfl rfl (Nat.le_of_ble_eq_true rfl) ⟨(Nat.le_of_ble_eq_true rfl), (Nat.le_of_ble_eq_true rfl)⟩ (Nat.le_of_ble_eq_true rfl) (Nat.le_of_ble_eq_true rfl) (fun E A1 h => ?_) (fun v' A1 h => ?_)
  · obtain ⟨⟨h0, h⟩ | ⟨h0, h⟩, hJ⟩ := h
    · cases h
    · have hE := Sum.inr.inj h
      subst hE
      rcases (show k = 1 ∨ k = 2 by omega) with rfl | rfl
      · refine bw_Tcatch [] ⟨0, 10, 13, 41⟩ [⟨0, 10, 17, 36⟩] rfl (fun z hz => absurd hz List.not_mem_nil) rfl (by decide) kl_41 kc_41 (fun q => ?_)
        refine bw_astore 15 dL_common_13 rfl (by decide) ?_
        refine bw_iconst (1) 16 dL_common_15 (by decide) rfl ?_
        exact bw_iret dL_common_16 rfl (Nat.le_of_ble_eq_true rfl) (Nat.le_of_ble_eq_true rfl) ⟨_, rfl, rfl, hJ, fun h => absurd h (by decide)⟩
      · refine bw_Tcatch [⟨0, 10, 13, 41⟩] ⟨0, 10, 17, 36⟩ [] rfl (fun z hz => by rw [List.mem_singleton.mp hz]; exact Or.inr ⟨by decide, _, kl_41, by decide +kernel⟩) rfl (by decide) kl_36 kc_36 (fun q => ?_)
        refine bw_astore 19 dL_common_17 rfl (by decide) ?_
        refine bw_iconst (2) 20 dL_common_19 (by decide) rfl ?_
        exact bw_iret dL_common_20 rfl (Nat.le_of_ble_eq_true rfl) (Nat.le_of_ble_eq_true rfl) ⟨_, rfl, rfl, hJ, fun h => absurd h (by decide)⟩
  · obtain ⟨⟨h0, h⟩ | ⟨h0, h⟩, hJ⟩ := h
    · have hv := Sum.inl.inj h
      subst hv
      subst h0
      obtain ⟨f, hf⟩ := hJ2 A1 hJ
      refine bw_i2l 9 dL_common_8 rfl ?_
      refine bw_lastU 10 dL_common_9 rfl hf (vp_in_nI (n := 0) (N := 1) (by decide) (by decide)) (fun A2 hU => ?_)
      refine bw_goto 21 dL_common_10 rfl ?_
      refine bw_iconst (0) 22 dL_common_21 (by decide) rfl ?_
      exact bw_iret dL_common_22 rfl (Nat.le_of_ble_eq_true rfl) (Nat.le_of_ble_eq_true rfl) ⟨_, rfl, rfl, by rw [hU]; exact hJ1 A1 _ hJ, fun _ => ⟨_, by rw [hU]; exact bw_up_eq, rfl⟩⟩
    · cases h
theorem w_root (g : bw_G) {A : bw_H} {x O k : Nat} {v : Int32} {fs : List Value} {J : bw_H → Prop} {a1 : Int32} {a2 : Int32} (hb : A.2 x = some (.inr (11, fs))) (hk : k ≤ 1) (hJ1 : ∀ (A1 : bw_H) (f : Nat → Int64), J A1 → J (bw_up A1 O (bw_al g 1 f))) (hJ2 : ∀ A1 : bw_H, J A1 → ∃ f, A1.2 O = some (bw_al g 1 f)) (hC : bw_C g (bw_rm 8 20 200) mX9_root [.ref x, .int a1, .int a2] A (fun o A1 => (k = 0 ∧ o = .inl (some (.int v)) ∨ k ≠ 0 ∧ o = .inr (exN [eIO] k)) ∧ J A1)) :
    bw_CH g (bw_rm 9 20 200) mL_root [.ref x, .int a1, .int a2, .ref O] A (bw_pm (fun y A1 => y = nI k ∧ J A1 ∧ (k = 0 → ∃ f, A1.2 O = some (bw_al g 1 f) ∧ f 0 = v.toInt64))) := by
  refine bw_CH.of (by decide) (Nat.le_of_ble_eq_true rfl) ?_
  refine bw_aload_n 1 dL_root_0 rfl rfl ?_
  refine bw_iconst (0) 2 dL_root_1 (by decide) rfl ?_
  refine bw_aload_n 3 dL_root_2 rfl rfl ?_
  refine bw_iload_n 4 dL_root_3 rfl rfl ?_
  refine bw_iload_n 5 dL_root_4 rfl rfl ?_
  refine bw_callV 8 dL_root_5 rfl vL_112 hC hb rfl rfl (Nat.le_of_ble_eq_true rfl) ⟨(Nat.le_of_ble_eq_true rfl), (Nat.le_of_ble_eq_true rfl)⟩ (Nat.le_of_ble_eq_true rfl) (Nat.le_of_ble_eq_true rfl) (fun E A1 h => ?_) (fun v' A1 h => ?_)
  · obtain ⟨⟨h0, h⟩ | ⟨h0, h⟩, hJ⟩ := h
    · cases h
    · have hE := Sum.inr.inj h
      subst hE
      have h1 : k = 1 := by omega
      subst h1
      refine bw_Tcatch [] ⟨0, 10, 13, 41⟩ [] rfl (fun z hz => absurd hz List.not_mem_nil) rfl (by decide) kl_41 kc_41 (fun q => ?_)
      refine bw_astore 15 dL_root_13 rfl (by decide) ?_
      refine bw_iconst (1) 16 dL_root_15 (by decide) rfl ?_
      exact bw_iret dL_root_16 rfl (Nat.le_of_ble_eq_true rfl) (Nat.le_of_ble_eq_true rfl) ⟨_, rfl, rfl, hJ, fun h => absurd h (by decide)⟩
  · obtain ⟨⟨h0, h⟩ | ⟨h0, h⟩, hJ⟩ := h
    · have hv := Sum.inl.inj h
      subst hv
      subst h0
      obtain ⟨f, hf⟩ := hJ2 A1 hJ
      refine bw_i2l 9 dL_root_8 rfl ?_
      refine bw_lastU 10 dL_root_9 rfl hf (vp_in_nI (n := 0) (N := 1) (by decide) (by decide)) (fun A2 hU => ?_)
      refine bw_goto 17 dL_root_10 rfl ?_
      refine bw_iconst (0) 18 dL_root_17 (by decide) rfl ?_
      exact bw_iret dL_root_18 rfl (Nat.le_of_ble_eq_true rfl) (Nat.le_of_ble_eq_true rfl) ⟨_, rfl, rfl, by rw [hU]; exact hJ1 A1 _ hJ, fun _ => ⟨_, by rw [hU]; exact bw_up_eq, rfl⟩⟩
    · cases h
theorem w_often (g : bw_G) {A : bw_H} {x O k : Nat} {v : Int32} {fs : List Value} {J : bw_H → Prop} {a1 : Int32} {a2 : Int32} (hb : A.2 x = some (.inr (11, fs))) (hk : k ≤ 2) (hJ1 : ∀ (A1 : bw_H) (f : Nat → Int64), J A1 → J (bw_up A1 O (bw_al g 1 f))) (hJ2 : ∀ A1 : bw_H, J A1 → ∃ f, A1.2 O = some (bw_al g 1 f)) (hC : bw_C g (bw_rm 8 20 200) mX9_often [.ref x, .int a1, .int a2] A (fun o A1 => (k = 0 ∧ o = .inl (some (.int v)) ∨ k ≠ 0 ∧ o = .inr (exN [eIO, eIA] k)) ∧ J A1)) :
    bw_CH g (bw_rm 9 20 200) mL_often [.ref x, .int a1, .int a2, .ref O] A (bw_pm (fun y A1 => y = nI k ∧ J A1 ∧ (k = 0 → ∃ f, A1.2 O = some (bw_al g 1 f) ∧ f 0 = v.toInt64))) := by
  refine bw_CH.of (by decide) (Nat.le_of_ble_eq_true rfl) ?_
  refine bw_aload_n 1 dL_often_0 rfl rfl ?_
  refine bw_iconst (0) 2 dL_often_1 (by decide) rfl ?_
  refine bw_aload_n 3 dL_often_2 rfl rfl ?_
  refine bw_iload_n 4 dL_often_3 rfl rfl ?_
  refine bw_iload_n 5 dL_often_4 rfl rfl ?_
  refine bw_callV 8 dL_often_5 rfl vL_115 hC hb rfl rfl (Nat.le_of_ble_eq_true rfl) ⟨(Nat.le_of_ble_eq_true rfl), (Nat.le_of_ble_eq_true rfl)⟩ (Nat.le_of_ble_eq_true rfl) (Nat.le_of_ble_eq_true rfl) (fun E A1 h => ?_) (fun v' A1 h => ?_)
  · obtain ⟨⟨h0, h⟩ | ⟨h0, h⟩, hJ⟩ := h
    · cases h
    · have hE := Sum.inr.inj h
      subst hE
      rcases (show k = 1 ∨ k = 2 by omega) with rfl | rfl
      · refine bw_Tcatch [] ⟨0, 10, 13, 41⟩ [⟨0, 10, 17, 13⟩] rfl (fun z hz => absurd hz List.not_mem_nil) rfl (by decide) kl_41 kc_41 (fun q => ?_)
        refine bw_astore 15 dL_often_13 rfl (by decide) ?_
        refine bw_iconst (1) 16 dL_often_15 (by decide) rfl ?_
        exact bw_iret dL_often_16 rfl (Nat.le_of_ble_eq_true rfl) (Nat.le_of_ble_eq_true rfl) ⟨_, rfl, rfl, hJ, fun h => absurd h (by decide)⟩
      · refine bw_Tcatch [⟨0, 10, 13, 41⟩] ⟨0, 10, 17, 13⟩ [] rfl (fun z hz => by rw [List.mem_singleton.mp hz]; exact Or.inr ⟨by decide, _, kl_41, by decide +kernel⟩) rfl (by decide) kl_13 kc_13 (fun q => ?_)
        refine bw_astore 19 dL_often_17 rfl (by decide) ?_
        refine bw_iconst (2) 20 dL_often_19 (by decide) rfl ?_
        exact bw_iret dL_often_20 rfl (Nat.le_of_ble_eq_true rfl) (Nat.le_of_ble_eq_true rfl) ⟨_, rfl, rfl, hJ, fun h => absurd h (by decide)⟩
  · obtain ⟨⟨h0, h⟩ | ⟨h0, h⟩, hJ⟩ := h
    · have hv := Sum.inl.inj h
      subst hv
      subst h0
      obtain ⟨f, hf⟩ := hJ2 A1 hJ
      refine bw_i2l 9 dL_often_8 rfl ?_
      refine bw_lastU 10 dL_often_9 rfl hf (vp_in_nI (n := 0) (N := 1) (by decide) (by decide)) (fun A2 hU => ?_)
      refine bw_goto 21 dL_often_10 rfl ?_
      refine bw_iconst (0) 22 dL_often_21 (by decide) rfl ?_
      exact bw_iret dL_often_22 rfl (Nat.le_of_ble_eq_true rfl) (Nat.le_of_ble_eq_true rfl) ⟨_, rfl, rfl, by rw [hU]; exact hJ1 A1 _ hJ, fun _ => ⟨_, by rw [hU]; exact bw_up_eq, rfl⟩⟩
    · cases h
theorem w_parts (g : bw_G) {A : bw_H} {x O k : Nat} {v : Int32} {fs : List Value} {J : bw_H → Prop} {a1 : Int32} {a2 : Int32} (hb : A.2 x = some (.inr (11, fs))) (hk : k ≤ 2) (hJ1 : ∀ (A1 : bw_H) (f : Nat → Int64), J A1 → J (bw_up A1 O (bw_al g 1 f))) (hJ2 : ∀ A1 : bw_H, J A1 → ∃ f, A1.2 O = some (bw_al g 1 f)) (hC : bw_C g (bw_rm 8 20 200) mX9_parts [.ref x, .int a1, .int a2] A (fun o A1 => (k = 0 ∧ o = .inl (some (.int v)) ∨ k ≠ 0 ∧ o = .inr (exN [eIO, eIA] k)) ∧ J A1)) :
    bw_CH g (bw_rm 9 20 200) mL_parts [.ref x, .int a1, .int a2, .ref O] A (bw_pm (fun y A1 => y = nI k ∧ J A1 ∧ (k = 0 → ∃ f, A1.2 O = some (bw_al g 1 f) ∧ f 0 = v.toInt64))) := by
  refine bw_CH.of (by decide) (Nat.le_of_ble_eq_true rfl) ?_
  refine bw_aload_n 1 dL_parts_0 rfl rfl ?_
  refine bw_iconst (0) 2 dL_parts_1 (by decide) rfl ?_
  refine bw_aload_n 3 dL_parts_2 rfl rfl ?_
  refine bw_iload_n 4 dL_parts_3 rfl rfl ?_
  refine bw_iload_n 5 dL_parts_4 rfl rfl ?_
  refine bw_callV 8 dL_parts_5 rfl vL_118 hC hb rfl rfl (Nat.le_of_ble_eq_true rfl) ⟨(Nat.le_of_ble_eq_true rfl), (Nat.le_of_ble_eq_true rfl)⟩ (Nat.le_of_ble_eq_true rfl) (Nat.le_of_ble_eq_true rfl) (fun E A1 h => ?_) (fun v' A1 h => ?_)
  · obtain ⟨⟨h0, h⟩ | ⟨h0, h⟩, hJ⟩ := h
    · cases h
    · have hE := Sum.inr.inj h
      subst hE
      rcases (show k = 1 ∨ k = 2 by omega) with rfl | rfl
      · refine bw_Tcatch [] ⟨0, 10, 13, 41⟩ [⟨0, 10, 17, 13⟩] rfl (fun z hz => absurd hz List.not_mem_nil) rfl (by decide) kl_41 kc_41 (fun q => ?_)
        refine bw_astore 15 dL_parts_13 rfl (by decide) ?_
        refine bw_iconst (1) 16 dL_parts_15 (by decide) rfl ?_
        exact bw_iret dL_parts_16 rfl (Nat.le_of_ble_eq_true rfl) (Nat.le_of_ble_eq_true rfl) ⟨_, rfl, rfl, hJ, fun h => absurd h (by decide)⟩
      · refine bw_Tcatch [⟨0, 10, 13, 41⟩] ⟨0, 10, 17, 13⟩ [] rfl (fun z hz => by rw [List.mem_singleton.mp hz]; exact Or.inr ⟨by decide, _, kl_41, by decide +kernel⟩) rfl (by decide) kl_13 kc_13 (fun q => ?_)
        refine bw_astore 19 dL_parts_17 rfl (by decide) ?_
        refine bw_iconst (2) 20 dL_parts_19 (by decide) rfl ?_
        exact bw_iret dL_parts_20 rfl (Nat.le_of_ble_eq_true rfl) (Nat.le_of_ble_eq_true rfl) ⟨_, rfl, rfl, hJ, fun h => absurd h (by decide)⟩
  · obtain ⟨⟨h0, h⟩ | ⟨h0, h⟩, hJ⟩ := h
    · have hv := Sum.inl.inj h
      subst hv
      subst h0
      obtain ⟨f, hf⟩ := hJ2 A1 hJ
      refine bw_i2l 9 dL_parts_8 rfl ?_
      refine bw_lastU 10 dL_parts_9 rfl hf (vp_in_nI (n := 0) (N := 1) (by decide) (by decide)) (fun A2 hU => ?_)
      refine bw_goto 21 dL_parts_10 rfl ?_
      refine bw_iconst (0) 22 dL_parts_21 (by decide) rfl ?_
      exact bw_iret dL_parts_22 rfl (Nat.le_of_ble_eq_true rfl) (Nat.le_of_ble_eq_true rfl) ⟨_, rfl, rfl, by rw [hU]; exact hJ1 A1 _ hJ, fun _ => ⟨_, by rw [hU]; exact bw_up_eq, rfl⟩⟩
    · cases h
theorem w_span (g : bw_G) {A : bw_H} {x O k : Nat} {v : Int32} {fs : List Value} {J : bw_H → Prop}  (hb : A.2 x = some (.inr (11, fs))) (hk : k ≤ 1) (hJ1 : ∀ (A1 : bw_H) (f : Nat → Int64), J A1 → J (bw_up A1 O (bw_al g 1 f))) (hJ2 : ∀ A1 : bw_H, J A1 → ∃ f, A1.2 O = some (bw_al g 1 f)) (hC : bw_C g (bw_rm 8 20 200) mX9_span [.ref x] A (fun o A1 => (k = 0 ∧ o = .inl (some (.int v)) ∨ k ≠ 0 ∧ o = .inr (exN [eIS] k)) ∧ J A1)) :
    bw_CH g (bw_rm 9 20 200) mL_span [.ref x, .ref O] A (bw_pm (fun y A1 => y = nI k ∧ J A1 ∧ (k = 0 → ∃ f, A1.2 O = some (bw_al g 1 f) ∧ f 0 = v.toInt64))) := by
  refine bw_CH.of (by decide) (Nat.le_of_ble_eq_true rfl) ?_
  refine bw_aload_n 1 dL_span_0 rfl rfl ?_
  refine bw_iconst (0) 2 dL_span_1 (by decide) rfl ?_
  refine bw_aload_n 3 dL_span_2 rfl rfl ?_
  refine bw_callV 6 dL_span_3 rfl vL_121 hC hb rfl rfl (Nat.le_of_ble_eq_true rfl) ⟨(Nat.le_of_ble_eq_true rfl), (Nat.le_of_ble_eq_true rfl)⟩ (Nat.le_of_ble_eq_true rfl) (Nat.le_of_ble_eq_true rfl) (fun E A1 h => ?_) (fun v' A1 h => ?_)
  · obtain ⟨⟨h0, h⟩ | ⟨h0, h⟩, hJ⟩ := h
    · cases h
    · have hE := Sum.inr.inj h
      subst hE
      have h1 : k = 1 := by omega
      subst h1
      refine bw_Tcatch [] ⟨0, 8, 11, 49⟩ [] rfl (fun z hz => absurd hz List.not_mem_nil) rfl (by decide) kl_49 kc_49 (fun q => ?_)
      refine bw_astore_n 12 dL_span_11 rfl (by decide) ?_
      refine bw_iconst (1) 13 dL_span_12 (by decide) rfl ?_
      exact bw_iret dL_span_13 rfl (Nat.le_of_ble_eq_true rfl) (Nat.le_of_ble_eq_true rfl) ⟨_, rfl, rfl, hJ, fun h => absurd h (by decide)⟩
  · obtain ⟨⟨h0, h⟩ | ⟨h0, h⟩, hJ⟩ := h
    · have hv := Sum.inl.inj h
      subst hv
      subst h0
      obtain ⟨f, hf⟩ := hJ2 A1 hJ
      refine bw_i2l 7 dL_span_6 rfl ?_
      refine bw_lastU 8 dL_span_7 rfl hf (vp_in_nI (n := 0) (N := 1) (by decide) (by decide)) (fun A2 hU => ?_)
      refine bw_goto 14 dL_span_8 rfl ?_
      refine bw_iconst (0) 15 dL_span_14 (by decide) rfl ?_
      exact bw_iret dL_span_15 rfl (Nat.le_of_ble_eq_true rfl) (Nat.le_of_ble_eq_true rfl) ⟨_, rfl, rfl, by rw [hU]; exact hJ1 A1 _ hJ, fun _ => ⟨_, by rw [hU]; exact bw_up_eq, rfl⟩⟩
    · cases h
theorem w_forth (g : bw_G) {A : bw_H} {x O k : Nat} {v : Int32} {fs : List Value} {J : bw_H → Prop} {a1 : Int32} (hb : A.2 x = some (.inr (11, fs))) (hk : k ≤ 2) (hJ1 : ∀ (A1 : bw_H) (f : Nat → Int64), J A1 → J (bw_up A1 O (bw_al g 1 f))) (hJ2 : ∀ A1 : bw_H, J A1 → ∃ f, A1.2 O = some (bw_al g 1 f)) (hC : bw_C g (bw_rm 8 20 200) mX9_forth [.ref x, .int a1] A (fun o A1 => (k = 0 ∧ o = .inl (some (.int v)) ∨ k ≠ 0 ∧ o = .inr (exN [eIO, eIS] k)) ∧ J A1)) :
    bw_CH g (bw_rm 9 20 200) mL_forth [.ref x, .int a1, .ref O] A (bw_pm (fun y A1 => y = nI k ∧ J A1 ∧ (k = 0 → ∃ f, A1.2 O = some (bw_al g 1 f) ∧ f 0 = v.toInt64))) := by
  refine bw_CH.of (by decide) (Nat.le_of_ble_eq_true rfl) ?_
  refine bw_aload_n 1 dL_forth_0 rfl rfl ?_
  refine bw_iconst (0) 2 dL_forth_1 (by decide) rfl ?_
  refine bw_aload_n 3 dL_forth_2 rfl rfl ?_
  refine bw_iload_n 4 dL_forth_3 rfl rfl ?_
  refine bw_callV 7 dL_forth_4 rfl vL_124 hC hb rfl rfl (Nat.le_of_ble_eq_true rfl) ⟨(Nat.le_of_ble_eq_true rfl), (Nat.le_of_ble_eq_true rfl)⟩ (Nat.le_of_ble_eq_true rfl) (Nat.le_of_ble_eq_true rfl) (fun E A1 h => ?_) (fun v' A1 h => ?_)
  · obtain ⟨⟨h0, h⟩ | ⟨h0, h⟩, hJ⟩ := h
    · cases h
    · have hE := Sum.inr.inj h
      subst hE
      rcases (show k = 1 ∨ k = 2 by omega) with rfl | rfl
      · refine bw_Tcatch [] ⟨0, 9, 12, 41⟩ [⟨0, 9, 15, 49⟩] rfl (fun z hz => absurd hz List.not_mem_nil) rfl (by decide) kl_41 kc_41 (fun q => ?_)
        refine bw_astore_n 13 dL_forth_12 rfl (by decide) ?_
        refine bw_iconst (1) 14 dL_forth_13 (by decide) rfl ?_
        exact bw_iret dL_forth_14 rfl (Nat.le_of_ble_eq_true rfl) (Nat.le_of_ble_eq_true rfl) ⟨_, rfl, rfl, hJ, fun h => absurd h (by decide)⟩
      · refine bw_Tcatch [⟨0, 9, 12, 41⟩] ⟨0, 9, 15, 49⟩ [] rfl (fun z hz => by rw [List.mem_singleton.mp hz]; exact Or.inr ⟨by decide, _, kl_41, by decide +kernel⟩) rfl (by decide) kl_49 kc_49 (fun q => ?_)
        refine bw_astore_n 16 dL_forth_15 rfl (by decide) ?_
        refine bw_iconst (2) 17 dL_forth_16 (by decide) rfl ?_
        exact bw_iret dL_forth_17 rfl (Nat.le_of_ble_eq_true rfl) (Nat.le_of_ble_eq_true rfl) ⟨_, rfl, rfl, hJ, fun h => absurd h (by decide)⟩
  · obtain ⟨⟨h0, h⟩ | ⟨h0, h⟩, hJ⟩ := h
    · have hv := Sum.inl.inj h
      subst hv
      subst h0
      obtain ⟨f, hf⟩ := hJ2 A1 hJ
      refine bw_i2l 8 dL_forth_7 rfl ?_
      refine bw_lastU 9 dL_forth_8 rfl hf (vp_in_nI (n := 0) (N := 1) (by decide) (by decide)) (fun A2 hU => ?_)
      refine bw_goto 18 dL_forth_9 rfl ?_
      refine bw_iconst (0) 19 dL_forth_18 (by decide) rfl ?_
      exact bw_iret dL_forth_19 rfl (Nat.le_of_ble_eq_true rfl) (Nat.le_of_ble_eq_true rfl) ⟨_, rfl, rfl, by rw [hU]; exact hJ1 A1 _ hJ, fun _ => ⟨_, by rw [hU]; exact bw_up_eq, rfl⟩⟩
    · cases h
theorem w_back (g : bw_G) {A : bw_H} {x O k : Nat} {v : Int32} {fs : List Value} {J : bw_H → Prop}  (hb : A.2 x = some (.inr (11, fs))) (hk : k ≤ 2) (hJ1 : ∀ (A1 : bw_H) (f : Nat → Int64), J A1 → J (bw_up A1 O (bw_al g 1 f))) (hJ2 : ∀ A1 : bw_H, J A1 → ∃ f, A1.2 O = some (bw_al g 1 f)) (hC : bw_C g (bw_rm 8 20 200) mX9_back [.ref x] A (fun o A1 => (k = 0 ∧ o = .inl (some (.int v)) ∨ k ≠ 0 ∧ o = .inr (exN [eIS, eUO] k)) ∧ J A1)) :
    bw_CH g (bw_rm 9 20 200) mL_back [.ref x, .ref O] A (bw_pm (fun y A1 => y = nI k ∧ J A1 ∧ (k = 0 → ∃ f, A1.2 O = some (bw_al g 1 f) ∧ f 0 = v.toInt64))) := by
  refine bw_CH.of (by decide) (Nat.le_of_ble_eq_true rfl) ?_
  refine bw_aload_n 1 dL_back_0 rfl rfl ?_
  refine bw_iconst (0) 2 dL_back_1 (by decide) rfl ?_
  refine bw_aload_n 3 dL_back_2 rfl rfl ?_
  refine bw_callV 6 dL_back_3 rfl vL_127 hC hb rfl rfl (Nat.le_of_ble_eq_true rfl) ⟨(Nat.le_of_ble_eq_true rfl), (Nat.le_of_ble_eq_true rfl)⟩ (Nat.le_of_ble_eq_true rfl) (Nat.le_of_ble_eq_true rfl) (fun E A1 h => ?_) (fun v' A1 h => ?_)
  · obtain ⟨⟨h0, h⟩ | ⟨h0, h⟩, hJ⟩ := h
    · cases h
    · have hE := Sum.inr.inj h
      subst hE
      rcases (show k = 1 ∨ k = 2 by omega) with rfl | rfl
      · refine bw_Tcatch [] ⟨0, 8, 11, 49⟩ [⟨0, 8, 14, 36⟩] rfl (fun z hz => absurd hz List.not_mem_nil) rfl (by decide) kl_49 kc_49 (fun q => ?_)
        refine bw_astore_n 12 dL_back_11 rfl (by decide) ?_
        refine bw_iconst (1) 13 dL_back_12 (by decide) rfl ?_
        exact bw_iret dL_back_13 rfl (Nat.le_of_ble_eq_true rfl) (Nat.le_of_ble_eq_true rfl) ⟨_, rfl, rfl, hJ, fun h => absurd h (by decide)⟩
      · refine bw_Tcatch [⟨0, 8, 11, 49⟩] ⟨0, 8, 14, 36⟩ [] rfl (fun z hz => by rw [List.mem_singleton.mp hz]; exact Or.inr ⟨by decide, _, kl_49, by decide +kernel⟩) rfl (by decide) kl_36 kc_36 (fun q => ?_)
        refine bw_astore_n 15 dL_back_14 rfl (by decide) ?_
        refine bw_iconst (2) 16 dL_back_15 (by decide) rfl ?_
        exact bw_iret dL_back_16 rfl (Nat.le_of_ble_eq_true rfl) (Nat.le_of_ble_eq_true rfl) ⟨_, rfl, rfl, hJ, fun h => absurd h (by decide)⟩
  · obtain ⟨⟨h0, h⟩ | ⟨h0, h⟩, hJ⟩ := h
    · have hv := Sum.inl.inj h
      subst hv
      subst h0
      obtain ⟨f, hf⟩ := hJ2 A1 hJ
      refine bw_i2l 7 dL_back_6 rfl ?_
      refine bw_lastU 8 dL_back_7 rfl hf (vp_in_nI (n := 0) (N := 1) (by decide) (by decide)) (fun A2 hU => ?_)
      refine bw_goto 17 dL_back_8 rfl ?_
      refine bw_iconst (0) 18 dL_back_17 (by decide) rfl ?_
      exact bw_iret dL_back_18 rfl (Nat.le_of_ble_eq_true rfl) (Nat.le_of_ble_eq_true rfl) ⟨_, rfl, rfl, by rw [hU]; exact hJ1 A1 _ hJ, fun _ => ⟨_, by rw [hU]; exact bw_up_eq, rfl⟩⟩
    · cases h
theorem w_told (g : bw_G) {A : bw_H} {x O k : Nat} {v : Int32} {fs : List Value} {J : bw_H → Prop} {a1 : Int32} (hb : A.2 x = some (.inr (11, fs))) (hk : k ≤ 1) (hJ1 : ∀ (A1 : bw_H) (f : Nat → Int64), J A1 → J (bw_up A1 O (bw_al g 1 f))) (hJ2 : ∀ A1 : bw_H, J A1 → ∃ f, A1.2 O = some (bw_al g 1 f)) (hC : bw_C g (bw_rm 8 20 200) mX9_told [.ref x, .int a1] A (fun o A1 => (k = 0 ∧ o = .inl (some (.int v)) ∨ k ≠ 0 ∧ o = .inr (exN [eIA] k)) ∧ J A1)) :
    bw_CH g (bw_rm 9 20 200) mL_told [.ref x, .int a1, .ref O] A (bw_pm (fun y A1 => y = nI k ∧ J A1 ∧ (k = 0 → ∃ f, A1.2 O = some (bw_al g 1 f) ∧ f 0 = v.toInt64))) := by
  refine bw_CH.of (by decide) (Nat.le_of_ble_eq_true rfl) ?_
  refine bw_aload_n 1 dL_told_0 rfl rfl ?_
  refine bw_iconst (0) 2 dL_told_1 (by decide) rfl ?_
  refine bw_aload_n 3 dL_told_2 rfl rfl ?_
  refine bw_iload_n 4 dL_told_3 rfl rfl ?_
  refine bw_callV 7 dL_told_4 rfl vL_130 hC hb rfl rfl (Nat.le_of_ble_eq_true rfl) ⟨(Nat.le_of_ble_eq_true rfl), (Nat.le_of_ble_eq_true rfl)⟩ (Nat.le_of_ble_eq_true rfl) (Nat.le_of_ble_eq_true rfl) (fun E A1 h => ?_) (fun v' A1 h => ?_)
  · obtain ⟨⟨h0, h⟩ | ⟨h0, h⟩, hJ⟩ := h
    · cases h
    · have hE := Sum.inr.inj h
      subst hE
      have h1 : k = 1 := by omega
      subst h1
      refine bw_Tcatch [] ⟨0, 9, 12, 13⟩ [] rfl (fun z hz => absurd hz List.not_mem_nil) rfl (by decide) kl_13 kc_13 (fun q => ?_)
      refine bw_astore_n 13 dL_told_12 rfl (by decide) ?_
      refine bw_iconst (1) 14 dL_told_13 (by decide) rfl ?_
      exact bw_iret dL_told_14 rfl (Nat.le_of_ble_eq_true rfl) (Nat.le_of_ble_eq_true rfl) ⟨_, rfl, rfl, hJ, fun h => absurd h (by decide)⟩
  · obtain ⟨⟨h0, h⟩ | ⟨h0, h⟩, hJ⟩ := h
    · have hv := Sum.inl.inj h
      subst hv
      subst h0
      obtain ⟨f, hf⟩ := hJ2 A1 hJ
      refine bw_i2l 8 dL_told_7 rfl ?_
      refine bw_lastU 9 dL_told_8 rfl hf (vp_in_nI (n := 0) (N := 1) (by decide) (by decide)) (fun A2 hU => ?_)
      refine bw_goto 15 dL_told_9 rfl ?_
      refine bw_iconst (0) 16 dL_told_15 (by decide) rfl ?_
      exact bw_iret dL_told_16 rfl (Nat.le_of_ble_eq_true rfl) (Nat.le_of_ble_eq_true rfl) ⟨_, rfl, rfl, by rw [hU]; exact hJ1 A1 _ hJ, fun _ => ⟨_, by rw [hU]; exact bw_up_eq, rfl⟩⟩
    · cases h
