/-! the claim: from the law's entry to its end -/
theorem en_fr {s t : State} {o : Outcome} {L : List Loc} {k n : Nat} (h : FrameEnd s o t L k n) (hL : ∀ q ∈ L, s.heap.size ≤ q.base) : Framed s o t [] k n :=
  ⟨h.1, h.2.1, State.sameButNew.drop_fresh (L := []) h.2.2 hL⟩
theorem bw_i1 {w : Cond} (h : (decide (w ∈ lw_tbl) && goodWord w) = true) : w ∈ bw_uw := by
  simp only [Bool.and_eq_true, decide_eq_true_eq] at h
  exact List.mem_filter.mpr h
theorem uX_J0 : ∀ w ∈ u_ws RJ0 TJ0 2, w ∈ bw_uw := bw_ins (by decide +kernel)
theorem uX_Jx : ∀ w ∈ u_ws RJx00060 TJx00060 6, w ∈ bw_uw := bw_ins (by decide +kernel)
theorem iX_J0 : Cond.instantiable RJ0 4 ∈ bw_uw := bw_i1 (by decide +kernel)
theorem iX_Jx : Cond.instantiable RJx00060 6 ∈ bw_uw := bw_i1 (by decide +kernel)
section EN
variable {s : State} {args : Array Value}
theorem en_K0 (hts : ∀ w ∈ bw_uw, w.before args s = true) : ∀ q ∈ vwCl, ∃ (cC : ClassId) (iS : Nat → Nat), u_Kn s q.1 q.2.1 q.2.2 cC iS := by
  refine List.forall_mem_cons.mpr ⟨u_known hts uX_J0 (hts _ iX_J0), List.forall_mem_cons.mpr ⟨u_known hts uX_Jx (hts _ iX_Jx), List.forall_mem_cons.mpr ⟨u_known hts uX_X0 (hts _ w_225), List.forall_mem_cons.mpr ⟨u_known hts uX_X1 (hts _ w_180), List.forall_mem_cons.mpr ⟨u_known hts uX_X2 (hts _ w_290), List.forall_mem_cons.mpr ⟨u_known hts uX_X3 (hts _ w_116), List.forall_mem_cons.mpr ⟨u_known hts uX_X4 (hts _ w_235), List.forall_mem_cons.mpr ⟨u_known hts uX_X5 (hts _ w_623), List.forall_mem_cons.mpr ⟨u_known hts uX_X6 (hts _ w_211), List.forall_mem_cons.mpr ⟨u_known hts uX_X7 (hts _ w_86), List.forall_mem_cons.mpr ⟨u_known hts uX_X8 (hts _ w_251), List.forall_mem_cons.mpr ⟨u_known hts uX_X9 (hts _ w_78), List.forall_mem_cons.mpr ⟨u_known hts uX_X10 (hts _ w_1121), fun _ h => absurd h List.not_mem_nil⟩⟩⟩⟩⟩⟩⟩⟩⟩⟩⟩⟩⟩
theorem en_K (hts : ∀ w ∈ bw_uw, w.before args s = true) : ∃ D : va_G, ∀ (c : Nat) (q : vw_C), vwCl[c]? = some q → u_Kn s q.1 q.2.1 q.2.2 (D.1 c) (D.2 c) := by
  have h : ∀ c : Nat, ∃ (cC : ClassId) (iS : Nat → Nat), ∀ q : vw_C, vwCl[c]? = some q → u_Kn s q.1 q.2.1 q.2.2 cC iS := by
    intro c
    cases hq : vwCl[c]? with
    | none => exact ⟨0, fun _ => 0, fun q h => by cases h⟩
    | some q =>
      obtain ⟨cC, iS, hk⟩ := en_K0 hts q (List.mem_of_getElem? hq)
      exact ⟨cC, iS, fun q' h => by cases h; exact hk⟩
  exact ⟨(fun c => Classical.choose (h c), fun c => Classical.choose (Classical.choose_spec (h c))), fun c q hq => Classical.choose_spec (Classical.choose_spec (h c)) q hq⟩
theorem en_T : Cond.arrayOver (.object "ByteFields$Matrix") ∈ lw_tbl ∧ Cond.arrayOver (.object "ByteFields$Polynomial") ∈ lw_tbl ∧ Cond.arrayOver (.array .int) ∈ lw_tbl := ⟨by decide +kernel, by decide +kernel, by decide +kernel⟩
theorem en_A (hts : ∀ w ∈ lw_tbl, w.before args s = true) : ∃ c : Nat → ClassId, ∀ (k : Nat) (q : ClassId × FieldType), (bw_ty c)[k]? = some q → ArrOfT s q.1 q.2 ∧ va_RA s q.1 q.2 := by
  obtain ⟨c0, k0, p0, a1, a2, a3⟩ := Cond.arrayClass_spec (hts _ (bw_uwi bw_wI))
  obtain ⟨c1, k1, p1, b1, b2, b3⟩ := Cond.arrayClass_spec (hts _ (bw_uwi bw_wL))
  obtain ⟨p2, c2, k2, d1, d2, d3, d4, d5⟩ := arrayOverA_spec (hts _ en_T.2.2)
  obtain ⟨p3, c3, k3, e1, e2, e3, e4, e5⟩ := Cond.arrayOver_spec (hts _ en_T.1)
  obtain ⟨p4, c4, k4, f1, f2, f3, f4, f5⟩ := Cond.arrayOver_spec (hts _ en_T.2.1)
  refine ⟨fun i => if i = 0 then c0 else if i = 1 then c1 else if i = 2 then c2 else if i = 3 then c3 else c4, fun k q hk => ?_⟩
  have hq := List.mem_of_getElem? hk
  clear hk
  revert q
  refine List.forall_mem_cons.mpr ⟨⟨fun n z => ⟨fun k h => (by cases h), k0, a2, p0, a3⟩, a1⟩, List.forall_mem_cons.mpr ⟨⟨fun n z => ⟨fun k h => (by cases h), k1, b2, p1, b3⟩, b1⟩, List.forall_mem_cons.mpr ⟨⟨fun n z => ⟨fun k h => (by cases h), k2, d3, p2, d4⟩, d5⟩, List.forall_mem_cons.mpr ⟨⟨fun n z => ⟨fun k h => (by cases h), k3, e3, p3, e4⟩, ⟨k3, p3, e3, e4, e1, e5⟩⟩, List.forall_mem_cons.mpr ⟨⟨fun n z => ⟨fun k h => (by cases h), k4, f3, p4, f4⟩, ⟨k4, p4, f3, f4, f1, f5⟩⟩, fun _ h => absurd h List.not_mem_nil⟩⟩⟩⟩⟩
theorem en_P (h : (Jvm.Cond.and given_1 narrow_1).before args s = true) : ∃ t : Nat, (Term.static "ByteFields$Field" "PRIMES" "[I").eval args s none [] s = some (.ref t) ∧ va_T .int t 4 (fun j => .int (bw_pr j)) (fun q => s.heap.size ≤ q) s s.heap := by
  have hs := flat_of_before _ h
  refine va_Tof (by decide) (hs _ (by decide +kernel)) (va_eqt (hs _ (by decide +kernel))) (fun j hj => ?_) (fun a ha h => absurd ha (Nat.not_lt.mpr h))
  have hj' : j = 0 ∨ j = 1 ∨ j = 2 ∨ j = 3 := by omega
  rcases hj' with rfl | rfl | rfl | rfl
  · exact va_eqt (z := 3) (hs (.eq (.elem (.static "ByteFields$Field" "PRIMES" "[I") (.int 0)) (.int 3)) (by decide +kernel))
  · exact va_eqt (z := 5) (hs (.eq (.elem (.static "ByteFields$Field" "PRIMES" "[I") (.int 1)) (.int 5)) (by decide +kernel))
  · exact va_eqt (z := 17) (hs (.eq (.elem (.static "ByteFields$Field" "PRIMES" "[I") (.int 2)) (.int 17)) (by decide +kernel))
  · exact va_eqt (z := 257) (hs (.eq (.elem (.static "ByteFields$Field" "PRIMES" "[I") (.int 3)) (.int 257)) (by decide +kernel))
theorem en_S1 : bw_ss.all (fun x => decide (Cond.stringRef x.1 x.2.1 x.2.2 ∈ lw_tbl)) = true := by decide +kernel
theorem en_S2 : bw_ss.all (fun x => decide (Cond.exactly (.string x.1 x.2.1) "java/lang/String" ∈ flatC (Jvm.Cond.and given_1 narrow_1))) = true := by decide +kernel
theorem en_N : bw_nc.all (fun x => decide (Cond.not (.castable x.1 x.2) ∈ flatC (Jvm.Cond.and given_1 narrow_1))) = true := by decide +kernel
theorem en_S (hts : ∀ w ∈ lw_tbl, w.before args s = true) (h : (Jvm.Cond.and given_1 narrow_1).before args s = true) : ∀ x ∈ bw_ss, ∃ sa : Nat, vk_R x.1 x.2.1 x.2.2 sa s := by
  intro x hx
  have h1 := of_decide_eq_true (List.all_eq_true.mp en_S1 x hx)
  have h2 := of_decide_eq_true (List.all_eq_true.mp en_S2 x hx)
  obtain ⟨a, -, -, -, ha, -⟩ := Cond.exactly_spec (flat_of_before _ h _ h2)
  exact ⟨a, vk_R.of (hts _ h1) ha⟩
theorem en_NC (h : (Jvm.Cond.and given_1 narrow_1).before args s = true) : ∀ x ∈ bw_nc, va_Nc x.1 x.2 s := fun x hx => va_Nc.of (flat_of_before _ h _ (of_decide_eq_true (List.all_eq_true.mp en_N x hx)))
theorem en_F (hts : ∀ w ∈ lw_tbl, w.before args s = true) : ∀ w ∈ bw_fw, w.before #[] s = true := by
  intro w hw
  have hm := List.mem_filter.mp hw
  have hfa : w.onTables = true := by
    have hf := hm.2
    cases w <;> first | rfl | (cases hf)
  have h2 := Cond.onTables_vm (A := args) (A' := #[]) (U := s) (U' := s) s.vm w hfa
  rw [State.setVm_self] at h2
  rw [← h2]
  exact hts w hm.1
theorem en_Z (hts : ∀ w ∈ lw_tbl, w.before args s = true) (h : (Jvm.Cond.and given_1 narrow_1).before args s = true) : vx_Zq Bundle.tN "UNASSIGNED_STACK" Bundle.steD (fun q => s.heap.size ≤ q) s s.heap ∧ vx_Zq Bundle.tN "SUPPRESSED_SENTINEL" Bundle.listD (fun q => s.heap.size ≤ q) s s.heap :=
  ⟨vx_Zqof (hts _ (by decide +kernel)) (hts _ (by decide +kernel)) (flat_of_before _ h _ (by decide +kernel)) (fun a ha h => absurd ha (Nat.not_lt.mpr h)), vx_Zqof (hts _ (by decide +kernel)) (hts _ (by decide +kernel)) (flat_of_before _ h _ (by decide +kernel)) (fun a ha h => absurd ha (Nat.not_lt.mpr h))⟩
theorem en_gl {b L : Nat} {xs : Nat → Int32} (hts : ∀ w ∈ lw_tbl, w.before args s = true) (h : (Jvm.Cond.and given_1 narrow_1).before args s = true) (hX : va_X b L xs s s.heap) (hb : b < s.heap.size) : ∃ g : bw_G, (g.2.2.1 = s.heap ∧ g.2.2.2.2.1 = b ∧ g.2.2.2.2.2.1 = L) ∧ bw_gl g s := by
  obtain ⟨D, hD⟩ := en_K (fun w hw => hts w (bw_uwi hw))
  obtain ⟨c, hc⟩ := en_A hts
  obtain ⟨t, ht, hT⟩ := en_P h
  have hZ : va_Z "ByteFields$Field" "PRIMES" "[I" (.ref t) (fun q => s.heap.size ≤ q) s s.heap := va_Zof (hts _ (by decide +kernel)) (hts _ (by decide +kernel)) ht (fun a ha h => absurd ha (Nat.not_lt.mpr h))
  exact ⟨(D, c, s.heap, t, b, L, xs), ⟨rfl, rfl, rfl⟩, ⟨hD, hc⟩, ⟨hZ, hT⟩, en_Z hts h, en_S hts h, en_F hts, en_NC h, va_AO.of (hts _ en_T.1), va_AO.of (hts _ en_T.2.1), hts _ en_T.2.2, hX, hb⟩
end EN
def R_law : String := "ByteFieldsLaw"
def lw_P (b : Addr) (xs : List Int32) (args : Array Value) (s : State) : Prop := args = #[.ref b] ∧ s.IntsAt b xs ∧ xs.length ≤ 2562 ∧ (Jvm.Cond.and given_1 narrow_1).before args s = true
def lw_Q (_ : Array Value) (s : State) (o : Outcome) (t : State) : Prop := o = .returned (some (.int 1)) ∧ Framed s o t [] room_1.cells room_1.slots
def lw_Z (below : List Frame) (a : Array Value) (s : State) : State → Prop := fun t => ∃ o, t.status = .running ∧ Ended t below o ∧ lw_Q a s o t
theorem whole_start {p : Program} {e : Env} {s : State} {m : MethodId} {below : List Frame} {meth : Method} {c : Code} (l : Launch) (hst : l.stackTraces = false) {b L : Nat} {xs : Nat → Int32} (hL : L ≤ 2562) (h1 : p.tables.exec = Jvm.exec) (h2 : c.code = code) (h3 : meth.sig.returnType = ret) (h4 : c.maxLocals = 7) (h5 : s.vm.findClass R_law = some m.cls) (h6 : ∀ w ∈ lw_tbl, w.before #[Value.ref b] s = true) (h7 : va_X b L xs s s.heap) (h8 : b < s.heap.size) (h9 : meth.locks = false) (h10 : (Jvm.Cond.and given_1 narrow_1).before #[Value.ref b] s = true) (hnm : meth.name = "law") (htab : c.exceptionTable.toList = []) :
    W p l e room_1 s m #[Value.ref b] below meth c s.heap [] 0 0 (lw_Z below #[Value.ref b] s) (entryFrame m ([Value.ref b] : List Value).toArray 7) := by
  obtain ⟨g, ⟨g1, g2, g3⟩, hgl⟩ := en_gl h6 h10 h7 h8
  have K := law_start g (A := (s.heap.size, fun _ => none)) (Q := fun o _ => o = .inl (some (.int 1))) (by rw [g3]; exact hL) (fun _ => rfl)
  have hR : bw_R g (s.heap.size, fun _ => none) s.heap := ⟨rfl, by unfold bw_lo; rw [g1]; exact Nat.le_refl _, fun q _ => by rw [g1], fun a e h => by cases h⟩
  have hX : bw_X g mL_law p l s m #[Value.ref b] meth c := ⟨h1, h2, h4, h3, h5, fun w hw => h6 w (bw_uwi hw), h9, hnm, htab, hst, hgl, ⟨hR.2.1, hR.2.2.1⟩⟩
  rw [lg_entry_eq]
  intro T hT X
  obtain ⟨t, a1, o, b1, b2, b3⟩ := K p l e s m _ below meth c s.heap [] _ hX hR (Nat.le_refl _) (fun z h => by cases h) (by rw [g2]; exact lv_entry [.ref b] (n := 7) (Nat.le_of_ble_eq_true rfl)) T hT X
  refine ⟨t, a1, o, b1, b2, ?_⟩
  rcases b3 with ⟨⟨v, A', e1, e2, e3⟩, L', hF, hL'⟩ | ⟨q, hq, E, ce, L', ⟨A', hA', hQ'⟩, hr⟩
  · have hv : v = some (.int 1) := Sum.inl.inj e3
    subst hv
    exact ⟨e1, en_fr hF (fun q hq => by have := hL' q hq; unfold bw_fr bw_lo at this; rw [g1] at this; exact this)⟩
  · cases hQ'
set_option maxHeartbeats 4000000 in
theorem lw_walk (l : Launch) (hst : l.stackTraces = false) (b : Addr) (xs : List Int32) : MetFree l x (headSpec (Jvm.Cond.code x code maxLocals ret :: tables_1) room_1) (lw_P b xs) (fun _ _ _ _ _ => True) lw_Q := by
  refine MetFree.of_bodyS (code := code) (maxLocals := maxLocals) (ret := ret) (by decide) ?_ ?_
  · intro args s m h hn
    obtain ⟨meth, c, h1, h2, h3, h4, h5, h6, -, -⟩ := Cond.code_spec hn (atoms_spec (ws := Jvm.Cond.code x code maxLocals ret :: tables_1) h _ List.mem_cons_self)
    exact ⟨meth, c, h1, h2, h3, h4, h5, h6⟩
  · intro p e s m args below meth c s₁ B hml0 hP _
    obtain ⟨rfl, hx, hbd, hgv⟩ := hP
    obtain ⟨scr, harrAt, hlist, hof, hsmall⟩ := hx
    obtain ⟨hcb, hkn, -, -⟩ := State.arrayAt?_spec harrAt
    have hown : s.vm.findClass R_law = some m.cls := findClass_of_methodNamed B.named
    have hts0 : ∀ c ∈ (Jvm.Cond.code x code maxLocals ret :: tables_1), c.before #[Value.ref b] s = true := atoms_spec (ws := Jvm.Cond.code x code maxLocals ret :: tables_1) B.pre
    have hts : ∀ w ∈ lw_tbl, w.before #[Value.ref b] s = true := k2_hts_sels lw_privs (fun w hw => hts0 w (List.mem_cons_of_mem _ hw)) lw_privs_ok
    have hml : c.maxLocals = 7 := B.maxLocals_eq (hts0 _ List.mem_cons_self)
    have X₀ : Stand p l e room_1 s m #[Value.ref b] below meth c s₁ [] 0 0 := Stand.of_body B
    have hh0 : s₁.heap = s.heap := by rw [B.state]; rfl
    have hsz : scr.slots.size = xs.length := by rw [← Array.length_toList, hlist, List.length_map]
    have hval : ∀ j : Nat, j < xs.length → scr.slots[j]? = some (.int (xs.getD j 0)) := fun j hj => by
      rw [← Array.getElem?_toList, hlist]
      simp [hj]
    have hbl : b < s.heap.size := (Array.getElem?_eq_some_iff.mp hcb).1
    have hX : va_X b xs.length (fun j => xs.getD j 0) s s.heap := ⟨scr, hcb, hof, hkn, hsz, hval⟩
    have htab : c.exceptionTable.toList = [] := by
      obtain ⟨meth9, c9, h1, h2, -, -, -, -, h7, -⟩ := Cond.code_spec B.named (hts0 _ List.mem_cons_self)
      cases Option.some.inj (h1.symm.trans B.method)
      cases Option.some.inj (h2.symm.trans X₀.code)
      rw [Array.isEmpty_iff.mp h7]
    have K : W p l e room_1 s m #[Value.ref b] below meth c s₁.heap [] 0 0 (lw_Z below #[Value.ref b] s) (entryFrame m ([Value.ref b] : List Value).toArray 7) := by
      rw [hh0]
      exact whole_start l hst hbd B.exec B.bytes B.returns hml hown hts hX hbl B.notSynchronized hgv (name_of_methodNamed B.named B.method).1 htab
    obtain ⟨t, a1, o, b1, b2, b3⟩ := K s₁ rfl X₀
    exact ⟨t, o, a1, b1, b2, b3⟩
theorem lw_pre_spec {args : Array Value} {s : State} (h : (Jvm.Cond.and given_1 narrow_1).before args s = true) (hr : rest_1_c.before args s = true) : ∃ (b : Addr) (xs : List Int32), lw_P b xs args s := by
  have hs := flat_of_before _ h
  have hq := flat_of_before _ hr
  have hc : (Cond.count 1).before args s = true := hs _ (by decide +kernel)
  have harr : (Cond.arrayOf (.arg 0) .int).before args s = true := hs _ (by decide +kernel)
  have hle : (Cond.le (.length (.arg 0)) (.int 2562)).before args s = true := hs _ (by decide +kernel)
  have hlen : (Cond.isInt (.length (.arg 0))).before args s = true := hq _ (by decide +kernel)
  have hall : (Cond.all (.arg 0) (.isInt (.elem (.arg 0) (.index 0)))).before args s = true := hq _ (by decide +kernel)
  obtain ⟨b, xs, hb, hx⟩ := State.ints_of_pre rfl harr hlen hall
  have hsm : xs.length < 2 ^ 31 := hx.choose_spec.2.2.2
  have hev : (Term.length (.arg 0)).eval args s none [] s = some (.int xs.length.toInt32) := hx.length_eval hb
  have hv := Cond.le_ints hev (show (Term.int 2562).eval args s none [] s = some (.int 2562) from rfl)
  have hd : xs.length.toInt32 ≤ 2562 := by
    simpa [Cond.before, Cond.holds, hv] using hle
  have hN : xs.length ≤ 2562 := (Int32.ofNat_le_ofNat hsm (by decide)).mp (show Int32.ofNat xs.length ≤ Int32.ofNat 2562 from hd)
  exact ⟨b, xs, Cond.one_arg hc (show args[0]? = some (.ref b) from hb), hx, hN, h⟩
theorem lw_comes (l : Launch) (hst : l.stackTraces = false) : Comes l x (Jvm.Cond.code x code maxLocals ret :: tables_1) room_1 (fun tb e args s => Calls_1 tb e args s ∧ rest_1 tb e args s ∧ Pre_1 tb e args s)
    (fun _ _ args s o t => lw_Q args s o t) := by
  intro p e ha hc hk s m args below hf hfit hheap happ hpre
  obtain ⟨b, xs, hP⟩ := lw_pre_spec hpre.2.2 hpre.2.1
  obtain ⟨k, o, h1, h2, h3, hQ⟩ := lw_walk l hst b xs p e ha hc hk s m args below hf ((Spec.applies_iff_loose hf).mp happ).1 hP trivial
  exact ⟨k, o, h1, h2, h3, hQ⟩
theorem lw_frame {s t : State} {o : Outcome} {args : Array Value} (h : Framed s o t [] room_1.cells room_1.slots) :
    Framed s o t (fieldLocs frame_1_writes args s ++ arrayLocs frame_1_arrays args s ++ staticLocs frame_1_statics s) room_1.cells room_1.slots := h
theorem lw_st {l : Launch} (h : l.flags = flags0) : l.stackTraces = false := by
  unfold Launch.stackTraces
  rw [h]
  decide
theorem lw_limb (L : Cond) (hL : ∀ (args : Array Value) (s t : State), L.after args s (.returned (some (.int 1))) t = true) :
    ArmFor flags0 classFile x code maxLocals ret World_1 tables_1 room_1 Calls_1 rest_1 Pre_1
      (fun tb e a s o t => postC L tb e a s o t ∧ Framed s o t (fieldLocs frame_1_writes a s ++ arrayLocs frame_1_arrays a s ++ staticLocs frame_1_statics s) room_1.cells room_1.slots) := by
  intro l hfl _ _ p e ha hc hk s m args below hf hfit hheap happ hpre
  obtain ⟨k, o, h1, h2, h3, rfl, hF⟩ := lw_comes l (lw_st hfl) p e ha hc hk s m args below hf hfit hheap happ hpre
  exact ⟨k, _, h1, h2, h3, hL args s _, lw_frame hF⟩
theorem i_vc : Claimed_1_1 ∧ Claimed_1_2 := ⟨lw_limb limb_1_1 (fun args s t => by simp [limb_1_1, Cond.after, Cond.holds, Cond.value]), lw_limb limb_1_2 (fun args s t => Cond.after_iff.mpr (by
  first | (rw [show limb_1_2 = Cond.eq .result (.int 1) from rfl, Cond.eq_ints (x := 1) (y := 1) rfl rfl]; simp; done) | (simp [limb_1_2, Cond.value, Term.eval]; done)))⟩
