/-! the reference: its constructor -/
theorem gol_le {n q a : Nat} : ∀ r k m, gol n q a r k m ≤ m
  | 0, _, m => Nat.le_refl m
  | r + 1, k, m => by
    show gol n q a r (k + 1) (if gp n q a (m / gfac k) = 1 then m / gfac k else m) ≤ m
    have h := gol_le (n := n) (q := q) (a := a) r (k + 1) (if gp n q a (m / gfac k) = 1 then m / gfac k else m)
    have h2 := Nat.div_le_self m (gfac k)
    by_cases hg : gp n q a (m / gfac k) = 1
    · rw [if_pos hg] at h ⊢
      omega
    · rw [if_neg hg] at h ⊢
      exact h
theorem gfac_ge (k : Nat) : 3 ≤ gfac k := by
  unfold gfac
  split
  · omega
  · split
    · omega
    · split <;> omega
theorem gol_top {n q a : Nat} : ∀ r k m, 0 < m → gol n q a r k m = m → ∀ i, k ≤ i → i < k + r → gp n q a (m / gfac i) ≠ 1
  | 0, k, m, _, _, i, h1, h2 => by omega
  | r + 1, k, m, hm, h, i, h1, h2 => by
    have h : gol n q a r (k + 1) (if gp n q a (m / gfac k) = 1 then m / gfac k else m) = m := h
    by_cases hg : gp n q a (m / gfac k) = 1
    · rw [if_pos hg] at h
      have h3 := gol_le (n := n) (q := q) (a := a) r (k + 1) (m / gfac k)
      have h4 := Nat.div_lt_self hm (show 1 < gfac k by have := gfac_ge k; omega)
      omega
    · rw [if_neg hg] at h
      by_cases hik : i = k
      · rw [hik]; exact hg
      · exact gol_top r (k + 1) m hm h i (by omega) (by omega)
theorem gol_of {n q a : Nat} : ∀ r k m, (∀ i, k ≤ i → i < k + r → gp n q a (m / gfac i) ≠ 1) → gol n q a r k m = m
  | 0, _, m, _ => rfl
  | r + 1, k, m, h => by
    show gol n q a r (k + 1) (if gp n q a (m / gfac k) = 1 then m / gfac k else m) = m
    rw [if_neg (h k (Nat.le_refl k) (by omega))]
    exact gol_of r (k + 1) m (fun i h1 h2 => h i (by omega) (by omega))
theorem uf_dv : ∀ n, n = 8 ∨ n = 16 → ∀ i, i < 4 → ((2 ^ n - 1) % gfac i = 0 ↔ i < if n = 8 then 3 else 4) := by
  intro n hn
  rcases hn with rfl | rfl <;> decide
theorem gol_gen {n q a : Nat} (hn : n = 8 ∨ n = 16) : gol n q a (if n = 8 then 3 else 4) 0 (2 ^ n - 1) = 2 ^ n - 1 ↔ ggen n q a := by
  have h4 : (if n = 8 then 3 else 4) ≤ 4 := by split <;> omega
  constructor
  · intro h i hi hd
    refine gol_top _ 0 _ ?_ h i (Nat.zero_le i) (by have := (uf_dv n hn i hi).mp hd; omega)
    rcases hn with rfl | rfl <;> decide
  · intro h
    refine gol_of _ 0 _ (fun i _ hi => h i (by omega) ((uf_dv n hn i (by omega)).mpr (by omega)))
/-- all that the constructor leaves -/
noncomputable abbrev mdl (g : bw_G) (M : Nat) : List (Nat × va_E) := [(M + 1, bw_an g 130 (fun _ => 0)), (M + 2, bw_an g 40 (fun _ => 0)), (M + 3, bw_an g 40 (fun _ => 0)), (M + 4, bw_an g 2560 (fun _ => 0)), (M + 5, bw_an g 65536 (fun _ => 0)), (M + 6, bw_an g 72 (fun _ => 0)), (M + 7, bw_ao g 8 (fun _ => some 0)), (M + 8, bw_ao g 40 (fun _ => tO 1)), (M + 9, bw_an g 2600 (fun _ => 0)), (M + 10, bw_an g 200 (fun _ => 0)), (M + 11, bw_an g 200 (fun _ => 0)), (M + 12, bw_an g 200 (fun _ => 0)), (M + 13, bw_an g 200 (fun _ => 0)), (M + 14, bw_an g 64 (fun _ => 0)), (M + 15, bw_an g 65 (fun _ => 0)), (M + 16, bw_an g 200 (fun _ => 0)), (M + 17, bw_an g 200 (fun _ => 0)), (M + 18, bw_an g 64 (fun _ => 0))]
set_option maxHeartbeats 4000000 in
theorem m_init_gen (g : bw_G) {A0 : bw_H} {M n p gg cu su : Nat} {Q : bw_O → bw_H → Prop} (hn8 : n = 8 ∨ n = 16) (hpl : p < 2 ^ n) (hgl : gg < 2 ^ n) (hg1 : ggen n (2 ^ n ||| p) gg) (hg2 : ∀ b, 2 ≤ b → b < gg → ¬ ggen n (2 ^ n ||| p) b) (hcu : cu ≤ 18) (hsu : su ≤ 72419)
    (hQ : ∀ A : bw_H, bw_has A [(M, mdo M n p gg 0 0 0 0 0 0 0 0)] → bw_sm [M] A0 A → Q (.inl none) A) :
    ∀ (d a : Nat), a + d = gg → 2 ≤ a → ∀ A : bw_H, bw_has A [(M, mdo M n p a 0 0 0 0 0 0 0 0)] → bw_sm [M] A0 A →
      bw_W g (bw_rm 3 18 72419) mX10_init Q cu su 247 [(0, .ref M)] [] A := by
  have hn : n ≤ 16 := by omega
  have h16 : 2 ^ n ≤ 65536 := by rcases hn8 with rfl | rfl <;> decide
  have h1 : 1 < 2 ^ n := by rcases hn8 with rfl | rfl <;> decide
  intro d
  induction d with
  | zero =>
    intro a hag h2 A hC hS
    have hag : a = gg := by omega
    subst hag
    have ha := hgl
    refine bw_aload_n 248 dX10_init_247 rfl rfl ?_
    refine bw_aload_n 249 dX10_init_248 rfl rfl ?_
    refine bw_get 252 dX10_init_249 rfl lX10_88 (hC.at 0 rfl) rfl ?_
    refine bw_cVi 255 dX10_init_252 rfl vX10_91 (c10_orderOf g hn hC rfl rfl rfl hpl ha h1) (hC.at 0 rfl) rfl rfl (Nat.le_of_ble_eq_true rfl) ⟨(Nat.le_of_ble_eq_true rfl), (Nat.le_of_ble_eq_true rfl)⟩ hcu hsu ?_
    refine bw_aload_n 256 dX10_init_255 rfl rfl ?_
    refine bw_get 259 dX10_init_256 rfl lX10_78 (hC.at 0 rfl) rfl ?_
    refine bw_iconst (1) 260 dX10_init_259 (by decide) rfl ?_
    refine bw_eqi (y := nI 1) rfl ?_
    refine bw_isub 261 dX10_init_260 rfl ?_
    refine bw_eqi (nI_sb (Nat.le_of_lt h1)) ?_
    refine bw_icmp_eq 277 264 dX10_init_261 rfl rfl (fun c261 => ?_) (fun c261 => ?_)
    · skip
      refine bw_vret dX10_init_277 rfl hcu hsu ?_
      exact hQ A hC hS
    · exact absurd (congrArg nI ((gol_gen hn8).mpr hg1)) c261
  | succ d ih =>
    intro a hag h2 A hC hS
    have ha : a < 2 ^ n := by omega
    have hol := gol_le (n := n) (q := 2 ^ n ||| p) (a := a) (if n = 8 then 3 else 4) 0 (2 ^ n - 1)
    refine bw_aload_n 248 dX10_init_247 rfl rfl ?_
    refine bw_aload_n 249 dX10_init_248 rfl rfl ?_
    refine bw_get 252 dX10_init_249 rfl lX10_88 (hC.at 0 rfl) rfl ?_
    refine bw_cVi 255 dX10_init_252 rfl vX10_91 (c10_orderOf g hn hC rfl rfl rfl hpl ha h1) (hC.at 0 rfl) rfl rfl (Nat.le_of_ble_eq_true rfl) ⟨(Nat.le_of_ble_eq_true rfl), (Nat.le_of_ble_eq_true rfl)⟩ hcu hsu ?_
    refine bw_aload_n 256 dX10_init_255 rfl rfl ?_
    refine bw_get 259 dX10_init_256 rfl lX10_78 (hC.at 0 rfl) rfl ?_
    refine bw_iconst (1) 260 dX10_init_259 (by decide) rfl ?_
    refine bw_eqi (y := nI 1) rfl ?_
    refine bw_isub 261 dX10_init_260 rfl ?_
    refine bw_eqi (nI_sb (Nat.le_of_lt h1)) ?_
    refine bw_icmp_eq 277 264 dX10_init_261 rfl rfl (fun c261 => ?_) (fun c261 => ?_)
    · exact absurd ((gol_gen hn8).mp ((nI_eq (by omega) (by omega)).mp c261)) (hg2 a h2 (by omega))
    · skip
      refine bw_aload_n 265 dX10_init_264 rfl rfl ?_
      refine bw_dup 266 dX10_init_265 rfl rfl ?_
      refine bw_get 269 dX10_init_266 rfl lX10_88 (hC.at 0 rfl) rfl ?_
      refine bw_iconst (1) 270 dX10_init_269 (by decide) rfl ?_
      refine bw_eqi (y := nI 1) rfl ?_
      refine bw_iadd 271 dX10_init_270 rfl ?_
      refine bw_eqi (nI_add a 1) ?_
      refine bw_putU 274 dX10_init_271 rfl pX10_88 (hC.at 0 rfl) rfl rfl (Nat.le_of_ble_eq_true rfl) (fun A hU => ?_)
      have hC := hC.upd 0 rfl hU
      have hS := hS.upd hU (by simp)
      clear hU
      refine bw_goto 247 dX10_init_274 rfl ?_
      exact bw_loc [(0, .ref M)] ⟨rfl, trivial⟩ (ih (a + 1) (by omega) (by omega) A hC hS)
set_option maxHeartbeats 4000000 in
theorem m_init_poly (g : bw_G) {A0 : bw_H} {M n s j0 cu su : Nat} {Q : bw_O → bw_H → Prop} (hn8 : n = 8 ∨ n = 16) (hj1 : bpr (2 ^ n ||| ((s + j0) % 2 ^ n)) (n / 2 + 1)) (hj2 : ∀ i, i < j0 → ¬ bpr (2 ^ n ||| ((s + i) % 2 ^ n)) (n / 2 + 1)) (hcu : cu ≤ 18) (hsu : su ≤ 72419)
    (kk : ∀ A : bw_H, bw_has A [(M, mdo M n ((s + j0) % 2 ^ n) 0 0 0 0 0 0 0 0 0)] → bw_sm [M] A0 A → bw_W g (bw_rm 3 18 72419) mX10_init Q cu su 242 [(0, .ref M)] [] A) :
    ∀ (d j : Nat), j + d = j0 → ∀ A : bw_H, bw_has A [(M, mdo M n ((s + j) % 2 ^ n) 0 0 0 0 0 0 0 0 0)] → bw_sm [M] A0 A →
      bw_W g (bw_rm 3 18 72419) mX10_init Q cu su 206 [(0, .ref M)] [] A := by
  have hn : n ≤ 16 := by omega
  have h16 : 2 ^ n ≤ 65536 := by rcases hn8 with rfl | rfl <;> decide
  have h1 : 1 < 2 ^ n := by rcases hn8 with rfl | rfl <;> decide
  have hml : ∀ j, (s + j) % 2 ^ n < 2 ^ n := fun j => Nat.mod_lt _ (Nat.two_pow_pos n)
  intro d
  induction d with
  | zero =>
    intro j hjj A hC hS
    have hjj : j = j0 := by omega
    subst hjj
    have hz : 1 = 1 ∧ bpr (2 ^ n ||| ((s + j) % 2 ^ n)) (n / 2 + 1) ∨ 1 = 0 ∧ ¬ bpr (2 ^ n ||| ((s + j) % 2 ^ n)) (n / 2 + 1) := Or.inl ⟨rfl, hj1⟩
    refine bw_aload_n 207 dX10_init_206 rfl rfl ?_
    refine bw_aload_n 208 dX10_init_207 rfl rfl ?_
    refine bw_get 211 dX10_init_208 rfl lX10_78 (hC.at 0 rfl) rfl ?_
    refine bw_aload_n 212 dX10_init_211 rfl rfl ?_
    refine bw_get 215 dX10_init_212 rfl lX10_81 (hC.at 0 rfl) rfl ?_
    refine bw_ior 216 dX10_init_215 rfl ?_
    refine bw_eqi (xn_or _ _) ?_
    refine bw_cVi 219 dX10_init_216 rfl vX10_84 (c10_isPrime g hn hC rfl (by have := gq_lt (hml j); have : 2 ^ (n + 1) ≤ 2 ^ 17 := Nat.pow_le_pow_right (by omega) (by omega); omega) hz) (hC.at 0 rfl) rfl rfl (Nat.le_of_ble_eq_true rfl) ⟨(Nat.le_of_ble_eq_true rfl), (Nat.le_of_ble_eq_true rfl)⟩ hcu hsu ?_
    refine bw_if_ne 242 222 dX10_init_219 rfl rfl (fun c219 => ?_) (fun c219 => ?_)
    · exact bw_loc [(0, .ref M)] ⟨rfl, trivial⟩ (kk A hC hS)
    · exact absurd c219 (by decide)
  | succ d ih =>
    intro j hjj A hC hS
    have hz : 0 = 1 ∧ bpr (2 ^ n ||| ((s + j) % 2 ^ n)) (n / 2 + 1) ∨ 0 = 0 ∧ ¬ bpr (2 ^ n ||| ((s + j) % 2 ^ n)) (n / 2 + 1) := Or.inr ⟨rfl, hj2 j (by omega)⟩
    have hmj := hml j
    refine bw_aload_n 207 dX10_init_206 rfl rfl ?_
    refine bw_aload_n 208 dX10_init_207 rfl rfl ?_
    refine bw_get 211 dX10_init_208 rfl lX10_78 (hC.at 0 rfl) rfl ?_
    refine bw_aload_n 212 dX10_init_211 rfl rfl ?_
    refine bw_get 215 dX10_init_212 rfl lX10_81 (hC.at 0 rfl) rfl ?_
    refine bw_ior 216 dX10_init_215 rfl ?_
    refine bw_eqi (xn_or _ _) ?_
    refine bw_cVi 219 dX10_init_216 rfl vX10_84 (c10_isPrime g hn hC rfl (by have := gq_lt (hml j); have : 2 ^ (n + 1) ≤ 2 ^ 17 := Nat.pow_le_pow_right (by omega) (by omega); omega) hz) (hC.at 0 rfl) rfl rfl (Nat.le_of_ble_eq_true rfl) ⟨(Nat.le_of_ble_eq_true rfl), (Nat.le_of_ble_eq_true rfl)⟩ hcu hsu ?_
    refine bw_if_ne 242 222 dX10_init_219 rfl rfl (fun c219 => ?_) (fun c219 => ?_)
    · exact absurd rfl c219
    · skip
      refine bw_aload_n 223 dX10_init_222 rfl rfl ?_
      refine bw_aload_n 224 dX10_init_223 rfl rfl ?_
      refine bw_get 227 dX10_init_224 rfl lX10_81 (hC.at 0 rfl) rfl ?_
      refine bw_iconst (1) 228 dX10_init_227 (by decide) rfl ?_
      refine bw_eqi (y := nI 1) rfl ?_
      refine bw_iadd 229 dX10_init_228 rfl ?_
      refine bw_eqi (nI_add _ 1) ?_
      refine bw_aload_n 230 dX10_init_229 rfl rfl ?_
      refine bw_get 233 dX10_init_230 rfl lX10_78 (hC.at 0 rfl) rfl ?_
      refine bw_iconst (1) 234 dX10_init_233 (by decide) rfl ?_
      refine bw_eqi (y := nI 1) rfl ?_
      refine bw_isub 235 dX10_init_234 rfl ?_
      refine bw_eqi (nI_sb (Nat.le_of_lt h1)) ?_
      refine bw_iand 236 dX10_init_235 rfl ?_
      refine bw_eqi ((xn_mask hn (by omega)).trans (congrArg nI ((Nat.mod_add_mod (s + j) (2 ^ n) 1).trans rfl))) ?_
      refine bw_putU 239 dX10_init_236 rfl pX10_81 (hC.at 0 rfl) rfl rfl (Nat.le_of_ble_eq_true rfl) (fun A hU => ?_)
      have hC := hC.upd 0 rfl hU
      have hS := hS.upd hU (by simp)
      clear hU
      refine bw_goto 206 dX10_init_239 rfl ?_
      exact bw_loc [(0, .ref M)] ⟨rfl, trivial⟩ (ih (j + 1) (by omega) A hC hS)
/-- what the reference's constructor leaves -/
def minP (g : bw_G) (n p gg M : Nat) (A0 A' : bw_H) : Prop := A'.1 = M + 19 ∧ bw_gw M A0 A' ∧ bw_has A' ((M, mdo M n p gg 0 0 0 0 0 0 0 0) :: mdl g M)
set_option maxHeartbeats 1000000 in
theorem m_init_B (g : bw_G) {A0 A : bw_H} {M n gg j0 cu su : Nat} {s : Int32} (hG : GFg n ((s.toBitVec.toNat % 2 ^ n + j0) % 2 ^ n) gg) (hj1 : bpr (2 ^ n ||| ((s.toBitVec.toNat % 2 ^ n + j0) % 2 ^ n)) (n / 2 + 1)) (hj2 : ∀ i, i < j0 → ¬ bpr (2 ^ n ||| ((s.toBitVec.toNat % 2 ^ n + i) % 2 ^ n)) (n / 2 + 1)) (hg2 : ∀ b, 2 ≤ b → b < gg → ¬ ggen n (2 ^ n ||| ((s.toBitVec.toNat % 2 ^ n + j0) % 2 ^ n)) b)
    (hC : bw_has A ((M, mdo M n (s.toBitVec.toNat % 2 ^ n) 0 0 0 0 0 0 0 0 0) :: mdl g M)) (hz : A.1 = M + 19) (hW : bw_gw M A0 A) (hcu : cu ≤ 18) (hsu : su ≤ 72419) : bw_W g (bw_rm 3 18 72419) mX10_init (bw_pv (minP g n ((s.toBitVec.toNat % 2 ^ n + j0) % 2 ^ n) gg M A0)) cu su 206 [(0, .ref M)] [] A := by
  refine m_init_poly g hG.1 hj1 hj2 hcu hsu (fun A1 hC1 hS1 => ?_) j0 0 (by omega) A (by rw [Nat.add_zero, Nat.mod_mod]; exact hC.sub [0] (by decide) rfl) bw_sm.rf
  have K247 : ∀ A2 : bw_H, bw_has A2 [(M, mdo M n ((s.toBitVec.toNat % 2 ^ n + j0) % 2 ^ n) 2 0 0 0 0 0 0 0 0)] → bw_sm [M] A A2 → bw_W g (bw_rm 3 18 72419) mX10_init (bw_pv (minP g n ((s.toBitVec.toNat % 2 ^ n + j0) % 2 ^ n) gg M A0)) cu su 247 [(0, .ref M)] [] A2 := by
    intro A2 hC2 hS2
    refine m_init_gen g hG.1 hG.2.1 hG.2.2.2.2.1 hG.2.2.2.2.2 hg2 hcu hsu (fun A3 hC3 hS3 => ⟨rfl, hS3.1.trans hz, fun b hb => (hS3.2 b (by simp; omega)).trans (hW b hb), ?_⟩) (gg - 2) 2 (by have := hG.2.2.2.1; omega) (Nat.le_refl 2) A2 hC2 hS2
    exact hC3.ap ((hC.sub [1, 2, 3, 4, 5, 6, 7, 8, 9, 10, 11, 12, 13, 14, 15, 16, 17, 18] (by decide) rfl).frm hS3 (by simp)) (by simp)
  have hC := hC1
  have hS := hS1
  refine bw_aload_n 243 dX10_init_242 rfl rfl ?_
  refine bw_iconst (2) 244 dX10_init_243 (by decide) rfl ?_
  refine bw_eqi (y := nI 2) rfl ?_
  refine bw_putU 247 dX10_init_244 rfl pX10_88 (hC.at 0 rfl) rfl rfl (Nat.le_of_ble_eq_true rfl) (fun A hU => ?_)
  have hC := hC.upd 0 rfl hU
  have hS := hS.upd hU (by simp)
  clear hU
  exact bw_loc [(0, .ref M)] ⟨rfl, trivial⟩ (K247 A hC hS)
