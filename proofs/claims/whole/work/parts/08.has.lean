/-! cells by their places; what a method leaves as it was -/
def bw_has (A : bw_H) (ws : List (Nat × va_E)) : Prop := (∀ q ∈ ws, A.2 q.1 = some q.2) ∧ (ws.map Prod.fst).Nodup
theorem bw_has.at {A : bw_H} {ws : List (Nat × va_E)} (h : bw_has A ws) (i : Nat) {a : Nat} {e : va_E} (hi : ws[i]? = some (a, e)) : A.2 a = some e := h.1 (a, e) (List.mem_of_getElem? hi)
theorem bw_up_eq {A : bw_H} {a : Nat} {e : va_E} : (bw_up A a e).2 a = some e := if_pos rfl
theorem bw_up_ne {A : bw_H} {a b : Nat} {e : va_E} (h : b ≠ a) : (bw_up A a e).2 b = A.2 b := if_neg h
theorem bw_nw_eq {A : bw_H} {e : va_E} : (bw_nw A e).2 A.1 = some e := if_pos rfl
theorem bw_nw_ne {A : bw_H} {b : Nat} {e : va_E} (h : b ≠ A.1) : (bw_nw A e).2 b = A.2 b := if_neg h
theorem bw_fst_set {ws : List (Nat × va_E)} {i a : Nat} {e e0 : va_E} (hi : ws[i]? = some (a, e0)) : (ws.set i (a, e)).map Prod.fst = ws.map Prod.fst := by
  apply List.ext_getElem?
  intro j
  rw [List.getElem?_map, List.getElem?_map, List.getElem?_set]
  by_cases h : i = j
  · subst h
    have hlt : i < ws.length := (List.getElem?_eq_some_iff.mp hi).1
    rw [if_pos rfl, if_pos hlt, hi]
    rfl
  · rw [if_neg h]
theorem bw_nodup_at {ws : List (Nat × va_E)} (hn : (ws.map Prod.fst).Nodup) {i j : Nat} {p q : Nat × va_E} (hi : ws[i]? = some p) (hj : ws[j]? = some q) (he : p.1 = q.1) : i = j := by
  have h1 : (ws.map Prod.fst)[i]? = some p.1 := by rw [List.getElem?_map, hi]; rfl
  have h2 : (ws.map Prod.fst)[j]? = some q.1 := by rw [List.getElem?_map, hj]; rfl
  have hlt : i < (ws.map Prod.fst).length := (List.getElem?_eq_some_iff.mp h1).1
  exact (List.getElem?_inj hlt hn).mp (by rw [h1, h2, he])
theorem bw_has.up {A : bw_H} {ws : List (Nat × va_E)} (h : bw_has A ws) (i : Nat) {a : Nat} {e0 e : va_E} (hi : ws[i]? = some (a, e0)) : bw_has (bw_up A a e) (ws.set i (a, e)) := by
  refine ⟨fun q hq => ?_, by rw [bw_fst_set hi]; exact h.2⟩
  obtain ⟨j, hj⟩ := List.getElem?_of_mem hq
  rw [List.getElem?_set] at hj
  by_cases hij : i = j
  · subst hij
    have hlt : i < ws.length := (List.getElem?_eq_some_iff.mp hi).1
    rw [if_pos rfl, if_pos hlt] at hj
    cases hj
    exact bw_up_eq
  · rw [if_neg hij] at hj
    have hne : q.1 ≠ a := fun he => hij (bw_nodup_at h.2 hi hj he.symm)
    rw [bw_up_ne hne]
    exact h.1 q (List.mem_of_getElem? hj)
theorem bw_has.upd {A A' : bw_H} {ws : List (Nat × va_E)} (h : bw_has A ws) (i : Nat) {a : Nat} {e0 e : va_E} (hi : ws[i]? = some (a, e0)) (hA : A' = bw_up A a e) : bw_has A' (ws.set i (a, e)) := by
  subst hA
  exact h.up i hi
/-- a cell more -/
theorem bw_has.nwd {A A' : bw_H} {ws : List (Nat × va_E)} {e : va_E} (h : bw_has A ws) (hok : ∀ (a : Nat) (e : va_E), A.2 a = some e → a < A.1) (hA : A' = bw_nw A e) : bw_has A' (ws ++ [(A.1, e)]) := by
  subst hA
  refine ⟨fun q hq => ?_, ?_⟩
  · rcases List.mem_append.mp hq with hq | hq
    · have h1 := h.1 q hq
      rw [bw_nw_ne (Nat.ne_of_lt (hok _ _ h1))]
      exact h1
    · rw [List.mem_singleton.mp hq]
      exact bw_nw_eq
  · rw [List.map_append, List.nodup_append]
    refine ⟨h.2, by simp, ?_⟩
    intro x hx y hy he
    obtain ⟨q, hq, rfl⟩ := List.mem_map.mp hx
    have h1 := hok _ _ (h.1 q hq)
    have h2 : y = A.1 := by simpa using hy
    omega
theorem bw_has.sub {A : bw_H} {ws ws' : List (Nat × va_E)} (h : bw_has A ws) (ps : List Nat) (hn : ps.Nodup) (hs : ps.filterMap (fun i => ws[i]?) = ws') : bw_has A ws' := by
  subst hs
  refine ⟨fun q hq => ?_, ?_⟩
  · obtain ⟨i, -, hi⟩ := List.mem_filterMap.mp hq
    exact h.1 q (List.mem_of_getElem? hi)
  · rw [List.map_filterMap]
    induction ps with
    | nil => exact List.nodup_nil
    | cons p ps ih =>
      rw [List.nodup_cons] at hn
      rw [List.filterMap_cons]
      cases hp : ws[p]? with
      | none => exact ih hn.2
      | some q =>
        simp only [Option.map_some]
        rw [List.nodup_cons]
        refine ⟨fun hm => ?_, ih hn.2⟩
        obtain ⟨j, hj, hjq⟩ := List.mem_filterMap.mp hm
        obtain ⟨q', hq', he⟩ := Option.map_eq_some_iff.mp hjq
        have := bw_nodup_at h.2 hp hq' he.symm
        subst this
        exact hn.1 hj
/-- nothing but the cells at L has changed, nothing is new -/
def bw_sm (L : List Nat) (A A' : bw_H) : Prop := A'.1 = A.1 ∧ ∀ b : Nat, b ∉ L → A'.2 b = A.2 b
theorem bw_sm.rf {L : List Nat} {A : bw_H} : bw_sm L A A := ⟨rfl, fun _ _ => rfl⟩
theorem bw_sm.upd {L : List Nat} {A0 A A' : bw_H} {a : Nat} {e : va_E} (h : bw_sm L A0 A) (hA : A' = bw_up A a e) (ha : a ∈ L) : bw_sm L A0 A' := by
  subst hA
  refine ⟨h.1, fun b hb => ?_⟩
  rw [bw_up_ne (a := a) (b := b) (fun he => hb (by rw [he]; exact ha))]
  exact h.2 b hb
theorem bw_sm.trans {L L' : List Nat} {A0 A A' : bw_H} (h : bw_sm L A0 A) (h' : bw_sm L' A A') (hs : ∀ b ∈ L', b ∈ L) : bw_sm L A0 A' :=
  ⟨h'.1.trans h.1, fun b hb => (h'.2 b (fun q => hb (hs b q))).trans (h.2 b hb)⟩
/-- the cells at the places ps become ws' -/
def bw_rpl : List Nat → List (Nat × va_E) → List (Nat × va_E) → List (Nat × va_E)
  | [] => fun _ ws => ws
  | i :: ps => fun ws' ws => match ws' with
    | [] => ws
    | q :: r => bw_rpl ps r (ws.set i q)
abbrev bw_rep (ws : List (Nat × va_E)) (ps : List Nat) (ws' : List (Nat × va_E)) : List (Nat × va_E) := bw_rpl ps ws' ws
theorem bw_has.call {A A' : bw_H} : ∀ {ws : List (Nat × va_E)} (_ : bw_has A ws) (ps : List Nat) (ws' : List (Nat × va_E)) (_ : ps.filterMap (fun i => (ws[i]?).map Prod.fst) = ws'.map Prod.fst) (_ : ps.length = ws'.length)
    (_ : bw_sm (ws'.map Prod.fst) A A') (_ : ∀ q ∈ ws', A'.2 q.1 = some q.2), bw_has A' (bw_rep ws ps ws') := by
  intro ws h ps ws' hp hl hS h'
  have key : ∀ (ps : List Nat) (ws' ws1 : List (Nat × va_E)), ps.length = ws'.length → ws1.map Prod.fst = ws.map Prod.fst → ps.filterMap (fun i => (ws[i]?).map Prod.fst) = ws'.map Prod.fst →
      (∀ q ∈ bw_rep ws1 ps ws', q ∈ ws1 ∨ q ∈ ws') ∧ (bw_rep ws1 ps ws').map Prod.fst = ws.map Prod.fst ∧ ∀ j q, (bw_rep ws1 ps ws')[j]? = some q → j ∉ ps → ws1[j]? = some q := by
    intro ps
    induction ps with
    | nil =>
      intro ws' ws1 _ h1 _
      exact ⟨fun q hq => Or.inl hq, h1, fun j q hq _ => hq⟩
    | cons i ps ih =>
      intro ws' ws1 hl h1 hf
      cases ws' with
      | nil => cases hl
      | cons q0 ws' =>
        rw [List.filterMap_cons] at hf
        cases hi : ws[i]? with
        | none =>
          rw [hi] at hf
          simp only [Option.map_none] at hf
          have := congrArg List.length hf
          have h2 := List.length_filterMap_le (fun i => (ws[i]?).map Prod.fst) ps
          simp only [List.length_map, List.length_cons] at this hl
          omega
        | some q =>
          rw [hi] at hf
          simp only [Option.map_some, List.map_cons, List.cons.injEq] at hf
          have hlt : i < ws.length := (List.getElem?_eq_some_iff.mp hi).1
          have hl1 : ws1.length = ws.length := by have := congrArg List.length h1; simpa using this
          have hi1 : ∃ e, ws1[i]? = some (q0.1, e) := by
            have h3 : (ws1.map Prod.fst)[i]? = some q.1 := by rw [h1, List.getElem?_map, hi]; rfl
            rw [List.getElem?_map] at h3
            obtain ⟨z, hz, he⟩ := Option.map_eq_some_iff.mp h3
            exact ⟨z.2, by rw [hz, ← hf.1, ← he]⟩
          obtain ⟨e, hi1⟩ := hi1
          have hs1 : (ws1.set i q0).map Prod.fst = ws.map Prod.fst := by
            have := bw_fst_set (e := q0.2) hi1
            rw [show ((q0.1, q0.2) : Nat × va_E) = q0 from rfl] at this
            rw [this]; exact h1
          obtain ⟨a1, a2, a3⟩ := ih ws' (ws1.set i q0) (by simpa using hl) hs1 hf.2
          refine ⟨fun z hz => ?_, a2, fun j z hz hj => ?_⟩
          · rcases a1 z hz with h4 | h4
            · rcases List.mem_or_eq_of_mem_set h4 with h5 | h5
              · exact Or.inl h5
              · rw [h5]; exact Or.inr List.mem_cons_self
            · exact Or.inr (List.mem_cons_of_mem _ h4)
          · have h5 := a3 j z hz (fun q => hj (List.mem_cons_of_mem _ q))
            rw [List.getElem?_set, if_neg (fun q => hj (by rw [q]; exact List.mem_cons_self))] at h5
            exact h5
  obtain ⟨k1, k2, k3⟩ := key ps ws' ws hl rfl hp
  refine ⟨fun q hq => ?_, by rw [k2]; exact h.2⟩
  rcases k1 q hq with h1 | h1
  · obtain ⟨j, hj⟩ := List.getElem?_of_mem hq
    by_cases hjp : q.1 ∈ ws'.map Prod.fst
    · obtain ⟨z, hz, he⟩ := List.mem_map.mp hjp
      by_cases hzz : q ∈ ws'
      · exact h' q hzz
      · -- q stands in ws under an address of ws': its place is among ps, so it was replaced
        exfalso
        rw [← hp] at hjp
        obtain ⟨i, hi, hiq⟩ := List.mem_filterMap.mp hjp
        obtain ⟨y, hy, hye⟩ := Option.map_eq_some_iff.mp hiq
        have hjq : (ws.map Prod.fst)[j]? = some q.1 := by rw [← k2, List.getElem?_map, hj]; rfl
        have hiq' : (ws.map Prod.fst)[i]? = some q.1 := by rw [List.getElem?_map, hy, ← hye]; rfl
        have hlt : j < (ws.map Prod.fst).length := (List.getElem?_eq_some_iff.mp hjq).1
        have hji : j = i := (List.getElem?_inj hlt h.2).mp (by rw [hjq, hiq'])
        subst hji
        have key2 : ∀ (ps : List Nat) (ws' ws1 : List (Nat × va_E)) (q : Nat × va_E), ps.length = ws'.length → j ∈ ps → j < ws1.length → (bw_rep ws1 ps ws')[j]? = some q → q ∈ ws' := by
          intro ps
          induction ps with
          | nil => intro ws' ws1 q _ hj; cases hj
          | cons i ps ih =>
            intro ws' ws1 q hl hj hlt hq
            cases ws' with
            | nil => cases hl
            | cons q0 ws' =>
              by_cases hjp : j ∈ ps
              · exact List.mem_cons_of_mem _ (ih ws' (ws1.set i q0) q (by simpa using hl) hjp (by simpa using hlt) hq)
              · have hji : j = i := by
                  rcases List.mem_cons.mp hj with h | h
                  · exact h
                  · exact absurd h hjp
                subst hji
                have key3 : ∀ (ps : List Nat) (ws' ws1 : List (Nat × va_E)), j ∉ ps → (bw_rep ws1 ps ws')[j]? = ws1[j]? := by
                  intro ps
                  induction ps with
                  | nil => intro ws' ws1 _; rfl
                  | cons i ps ih =>
                    intro ws' ws1 hj
                    cases ws' with
                    | nil => rfl
                    | cons q0 ws' =>
                      have := ih ws' (ws1.set i q0) (fun h => hj (List.mem_cons_of_mem _ h))
                      show (bw_rep (ws1.set i q0) ps ws')[j]? = _
                      rw [this, List.getElem?_set, if_neg (fun h => hj (by rw [h]; exact List.mem_cons_self))]
                have hq2 : (bw_rep (ws1.set j q0) ps ws')[j]? = some q := hq
                rw [key3 ps ws' (ws1.set j q0) hjp, List.getElem?_set, if_pos rfl, if_pos hlt] at hq2
                cases hq2
                exact List.mem_cons_self
        exact hzz (key2 ps ws' ws q hl hi (by simpa using hlt) hj)
    · rw [hS.2 q.1 hjp]
      exact h.1 q h1
  · exact h' q h1
section BWU
variable {g : bw_G} {R : Room} {k : bw_M} {Q : bw_O → bw_H → Prop} {cu su pc : Nat} {lv : List (Nat × Value)} {st : List Value} {A : bw_H}
theorem bw_ok (kk : (∀ (a : Nat) (e : va_E), A.2 a = some e → a < A.1) → bw_W g R k Q cu su pc lv st A) : bw_W g R k Q cu su pc lv st A := by
  intro p l e s m args below meth c H locs ls hX hR hs hl hv
  refine kk (fun a e h => ?_) p l e s m args below meth c H locs ls hX hR hs hl hv
  have := va_at.lt (hR.2.2.2 a e h).2
  have h1 := hR.1
  have : a < H.size := this
  omega
theorem bw_putU {i ci kf : Nat} {a : Nat} {fs : List Value} {v : Value} {ty : FieldType} (pc' : Nat) (hd : decode k.2.1 pc = .ok (.putfield i, 3)) (hp : pc + 3 = pc') (hf : bw_fp k.1.cls i ci kf ty false) (ha : A.2 a = some (.inr (ci, fs))) (hn0 : narrow ty v = v) (hfit : fits ty v = true) (hlen : kf < fs.length)
    (kk : ∀ A' : bw_H, A' = bw_up A a (.inr (ci, fs.set kf v)) → bw_W g R k Q cu su pc' lv st A') : bw_W g R k Q cu su pc lv (v :: .ref a :: st) A := bw_put pc' hd hp hf ha hn0 hfit hlen (kk _ rfl)
theorem bw_putFU {i ci kf : Nat} {a : Nat} {fs : List Value} {v : Value} {ty : FieldType} (pc' : Nat) (hd : decode k.2.1 pc = .ok (.putfield i, 3)) (hp : pc + 3 = pc') (hf : bw_fp k.1.cls i ci kf ty true) (hi0 : k.1.name = "<init>") (ha : A.2 a = some (.inr (ci, fs))) (hn0 : narrow ty v = v) (hfit : fits ty v = true) (hlen : kf < fs.length)
    (kk : ∀ A' : bw_H, A' = bw_up A a (.inr (ci, fs.set kf v)) → bw_W g R k Q cu su pc' lv st A') : bw_W g R k Q cu su pc lv (v :: .ref a :: st) A := bw_putF pc' hd hp hf hi0 ha hn0 hfit hlen (kk _ rfl)
theorem bw_iastU {a n : Nat} {f : Nat → Int32} {j x : Int32} (pc' : Nat) (hd : decode k.2.1 pc = .ok (.iastore, 1)) (hp : pc + 1 = pc') (ha : A.2 a = some (bw_ai g n f)) (hin : vp_in j n)
    (kk : ∀ A' : bw_H, A' = bw_up A a (bw_ai g n (upd f j.toNatClampNeg x)) → bw_W g R k Q cu su pc' lv st A') : bw_W g R k Q cu su pc lv (.int x :: .int j :: .ref a :: st) A := bw_iast pc' hd hp ha hin (kk _ rfl)
theorem bw_lastU {a n : Nat} {f : Nat → Int64} {j : Int32} {x : Int64} (pc' : Nat) (hd : decode k.2.1 pc = .ok (.lastore, 1)) (hp : pc + 1 = pc') (ha : A.2 a = some (bw_al g n f)) (hin : vp_in j n)
    (kk : ∀ A' : bw_H, A' = bw_up A a (bw_al g n (vp_updL f j.toNatClampNeg x)) → bw_W g R k Q cu su pc' lv st A') : bw_W g R k Q cu su pc lv (.long x :: .int j :: .ref a :: st) A := bw_last pc' hd hp ha hin (kk _ rfl)
theorem bw_aastU {a n t v ci : Nat} {r : vw_C} {vs : List Value} {f : Nat → Option Nat} {j : Int32} (pc' : Nat) (hd : decode k.2.1 pc = .ok (.aastore, 1)) (hp : pc + 1 = pc') (ht : (bw_ty g.2.1)[t]? = some (g.2.1 t, .object r.1)) (hc : vwCl[ci]? = some r) (ha : A.2 a = some (bw_aq g t n f)) (hv0 : A.2 v = some (.inr (ci, vs))) (hin : vp_in j n)
    (kk : ∀ A' : bw_H, A' = bw_up A a (bw_aq g t n (va_up f j.toNatClampNeg (some v))) → bw_W g R k Q cu su pc' lv st A') : bw_W g R k Q cu su pc lv (.ref v :: .int j :: .ref a :: st) A := bw_aast pc' hd hp ht hc ha hv0 hin (kk _ rfl)
end BWU
/-! rooms by level; ends of common kinds; calls of them -/
abbrev bw_rm (d mc ms : Nat) : Room := { frames := d, cells := mc, slots := ms, locals := 120 * d }
/-- an int, nothing changed -/
def bw_pi (x : Int32) (A : bw_H) : bw_O → bw_H → Prop := fun o A' => o = .inl (some (.int x)) ∧ A' = A
/-- nothing, and P of the heap -/
def bw_pv (P : bw_H → Prop) : bw_O → bw_H → Prop := fun o A' => o = .inl none ∧ P A'
/-- an int, and P of both -/
def bw_pm (P : Int32 → bw_H → Prop) : bw_O → bw_H → Prop := fun o A' => ∃ x : Int32, o = .inl (some (.int x)) ∧ P x A'
/-- an int, or something thrown -/
def bw_px (P : Int32 → bw_H → Prop) (X : String → bw_H → Prop) : bw_O → bw_H → Prop := fun o A' => (∃ x : Int32, o = .inl (some (.int x)) ∧ P x A') ∨ ∃ E : String, o = .inr E ∧ X E A'
section BWV
variable {g : bw_G} {R R' : Room} {k k' : bw_M} {Q : bw_O → bw_H → Prop} {cu su pc i n ci b : Nat} {lv : List (Nat × Value)} {st st0 As fs : List Value} {A : bw_H}
theorem bw_cVi {x : Int32} (pc' : Nat) (hd : decode k.2.1 pc = .ok (.invokevirtual i, 3)) (hp : pc + 3 = pc') (hw : bw_cv k.1.cls i k' n ci) (hM : bw_C g R' k' (.ref b :: As) A (bw_pi x A)) (hb : A.2 b = some (.inr (ci, fs))) (hn : As.length = n) (hst : st0 = As.reverse ++ .ref b :: st) (hcat : (st.map fun v => v.category).sum ≤ 8)
    (hR : R'.frames + 1 ≤ R.frames ∧ 8 + (k'.2.2.1 + 11) + R'.locals ≤ R.locals) (hc : cu + R'.cells ≤ R.cells) (hsl : su + R'.slots ≤ R.slots) (kk : bw_W g R k Q (cu + R'.cells) (su + R'.slots) pc' lv (.int x :: st) A) : bw_W g R k Q cu su pc lv st0 A :=
  bw_callV pc' hd hp hw hM hb hn hst hcat hR hc hsl (fun E A' h => by cases h.1) (fun v A' h => by
    obtain ⟨h1, h2⟩ := h
    have h1 : v = some (.int x) := Sum.inl.inj h1
    rw [h1, h2]
    exact kk)
theorem bw_cSi {x : Int32} (pc' : Nat) (hd : decode k.2.1 pc = .ok (.invokestatic i, 3)) (hp : pc + 3 = pc') (hw : bw_cs k.1.cls i k' n) (hM : bw_C g R' k' As A (bw_pi x A)) (hn : As.length = n) (hst : st0 = As.reverse ++ st) (hcat : (st.map fun v => v.category).sum ≤ 8)
    (hR : R'.frames + 1 ≤ R.frames ∧ 8 + (k'.2.2.1 + 11) + R'.locals ≤ R.locals) (hc : cu + R'.cells ≤ R.cells) (hsl : su + R'.slots ≤ R.slots) (kk : bw_W g R k Q (cu + R'.cells) (su + R'.slots) pc' lv (.int x :: st) A) : bw_W g R k Q cu su pc lv st0 A :=
  bw_callS pc' hd hp hw hM hn hst hcat hR hc hsl (fun E A' h => by cases h.1) (fun v A' h => by
    obtain ⟨h1, h2⟩ := h
    have h1 : v = some (.int x) := Sum.inl.inj h1
    rw [h1, h2]
    exact kk)
theorem bw_cVv {P : bw_H → Prop} (pc' : Nat) (hd : decode k.2.1 pc = .ok (.invokevirtual i, 3)) (hp : pc + 3 = pc') (hw : bw_cv k.1.cls i k' n ci) (hM : bw_C g R' k' (.ref b :: As) A (bw_pv P)) (hb : A.2 b = some (.inr (ci, fs))) (hn : As.length = n) (hst : st0 = As.reverse ++ .ref b :: st) (hcat : (st.map fun v => v.category).sum ≤ 8)
    (hR : R'.frames + 1 ≤ R.frames ∧ 8 + (k'.2.2.1 + 11) + R'.locals ≤ R.locals) (hc : cu + R'.cells ≤ R.cells) (hsl : su + R'.slots ≤ R.slots) (kk : ∀ A' : bw_H, P A' → bw_W g R k Q (cu + R'.cells) (su + R'.slots) pc' lv st A') : bw_W g R k Q cu su pc lv st0 A :=
  bw_callV pc' hd hp hw hM hb hn hst hcat hR hc hsl (fun E A' h => by cases h.1) (fun v A' h => by
    obtain ⟨h1, h2⟩ := h
    have h1 : v = none := Sum.inl.inj h1
    rw [h1]
    exact kk A' h2)
theorem bw_cSv {P : bw_H → Prop} (pc' : Nat) (hd : decode k.2.1 pc = .ok (.invokestatic i, 3)) (hp : pc + 3 = pc') (hw : bw_cs k.1.cls i k' n) (hM : bw_C g R' k' As A (bw_pv P)) (hn : As.length = n) (hst : st0 = As.reverse ++ st) (hcat : (st.map fun v => v.category).sum ≤ 8)
    (hR : R'.frames + 1 ≤ R.frames ∧ 8 + (k'.2.2.1 + 11) + R'.locals ≤ R.locals) (hc : cu + R'.cells ≤ R.cells) (hsl : su + R'.slots ≤ R.slots) (kk : ∀ A' : bw_H, P A' → bw_W g R k Q (cu + R'.cells) (su + R'.slots) pc' lv st A') : bw_W g R k Q cu su pc lv st0 A :=
  bw_callS pc' hd hp hw hM hn hst hcat hR hc hsl (fun E A' h => by cases h.1) (fun v A' h => by
    obtain ⟨h1, h2⟩ := h
    have h1 : v = none := Sum.inl.inj h1
    rw [h1]
    exact kk A' h2)
theorem bw_cVm {P : Int32 → bw_H → Prop} (pc' : Nat) (hd : decode k.2.1 pc = .ok (.invokevirtual i, 3)) (hp : pc + 3 = pc') (hw : bw_cv k.1.cls i k' n ci) (hM : bw_C g R' k' (.ref b :: As) A (bw_pm P)) (hb : A.2 b = some (.inr (ci, fs))) (hn : As.length = n) (hst : st0 = As.reverse ++ .ref b :: st) (hcat : (st.map fun v => v.category).sum ≤ 8)
    (hR : R'.frames + 1 ≤ R.frames ∧ 8 + (k'.2.2.1 + 11) + R'.locals ≤ R.locals) (hc : cu + R'.cells ≤ R.cells) (hsl : su + R'.slots ≤ R.slots) (kk : ∀ (x : Int32) (A' : bw_H), P x A' → bw_W g R k Q (cu + R'.cells) (su + R'.slots) pc' lv (.int x :: st) A') : bw_W g R k Q cu su pc lv st0 A :=
  bw_callV pc' hd hp hw hM hb hn hst hcat hR hc hsl (fun E A' h => by obtain ⟨x, h, -⟩ := h; cases h) (fun v A' h => by
    obtain ⟨x, h1, h2⟩ := h
    have h1 : v = some (.int x) := Sum.inl.inj h1
    rw [h1]
    exact kk x A' h2)
theorem bw_cIv {P : bw_H → Prop} (pc' : Nat) (hd : decode k.2.1 pc = .ok (.invokespecial i, 3)) (hp : pc + 3 = pc') (hw : bw_ci k.1.cls i k' n) (hM : bw_C g R' k' (.ref b :: As) A (bw_pv P)) (hn : As.length = n) (hst : st0 = As.reverse ++ .ref b :: st) (hcat : (st.map fun v => v.category).sum ≤ 8)
    (hR : R'.frames + 1 ≤ R.frames ∧ 8 + (k'.2.2.1 + 11) + R'.locals ≤ R.locals) (hc : cu + R'.cells ≤ R.cells) (hsl : su + R'.slots ≤ R.slots) (kk : ∀ A' : bw_H, P A' → bw_W g R k Q (cu + R'.cells) (su + R'.slots) pc' lv st A') : bw_W g R k Q cu su pc lv st0 A :=
  bw_callI pc' hd hp hw hM (fun E A' h => by cases h.1) hn hst hcat hR hc hsl (fun v A' h => by
    obtain ⟨h1, h2⟩ := h
    have h1 : v = none := Sum.inl.inj h1
    rw [h1]
    exact kk A' h2)
theorem bw_iincN {n : Int} {x : Int32} (c : Int32) (pc' : Nat) (hd : decode k.2.1 pc = .ok (.iinc i n, 3)) (hp : pc + 3 = pc') (hx : bw_lk lv i = some (.int x)) (hc : Int32.ofInt n = c) (hn : i < k.2.2.1) (kk : bw_W g R k Q cu su pc' (bw_st lv i (.int (x + c))) st A) : bw_W g R k Q cu su pc lv st A :=
  bw_iinc (x + c) pc' hd hp hx (by rw [hc]) hn kk
end BWV
