/-! THE CORE: one judgement over an abstract heap, for every method of class, reference and law -/
/-- the abstract heap: its size, and the cells that are known -/
abbrev bw_H : Type := Nat × (Nat → Option va_E)
def bw_up (A : bw_H) (a : Nat) (e : va_E) : bw_H := (A.1, fun b => if b = a then some e else A.2 b)
def bw_nw (A : bw_H) (e : va_E) : bw_H := (A.1 + 1, fun b => if b = A.1 then some e else A.2 b)
/-- what is fixed over a run: class numbers and slots, array classes, the heap at the law's entry, where PRIMES lies, where the script lies, its length and ints -/
abbrev bw_G : Type := va_G × (Nat → ClassId) × Heap × Nat × Nat × Nat × (Nat → Int32)
def bw_lo (g : bw_G) : Nat := g.2.2.1.size
def bw_ty (c : Nat → ClassId) : List (ClassId × FieldType) := [(c 0, .int), (c 1, .long), (c 2, .array .int), (c 3, .object "ByteFields$Matrix"), (c 4, .object "ByteFields$Polynomial")]
def bw_fr (g : bw_G) : Nat → Prop := fun q => bw_lo g ≤ q
def bw_pr (j : Nat) : Int32 := if j = 0 then 3 else if j = 1 then 5 else if j = 2 then 17 else 257
/-- texts of the class: own class, entry, text -/
abbrev bw_S : Type := String × Nat × String
def bw_ss : List bw_S := [("ByteFields", 345, "no member"), ("ByteFields", 109, "a quotient by 0"), ("ByteFields", 117, "a power of 0 below 0"), ("ByteFields", 125, "0 has no log"), ("ByteFields", 140, "the row is full"), ("ByteFields", 145, "a place below 0"), ("ByteFields", 347, "a matrix has 1 to 8 rows and columns"), ("ByteFields", 351, "a matrix too many"), ("ByteFields", 165, "the row must have one member for each row, none alike"), ("ByteFields", 171, "the row must have one member for each row and column, none alike"), ("ByteFields", 357, "no such matrix"), ("ByteFields", 182, "0 asks for the rows, 1 for the columns"), ("ByteFields", 359, "no such row or column"), ("ByteFields", 195, "the sides do not fit"), ("ByteFields", 349, "the matrix is not square"), ("ByteFields", 223, "the row must have one member for each row of the matrix"), ("ByteFields", 235, "the degree is too high"), ("ByteFields", 353, "a polynomial too many"), ("ByteFields", 247, "the row must have pairs, no two of one x"), ("ByteFields", 361, "no such polynomial"), ("ByteFields", 264, "a power below 0"), ("ByteFields", 287, "a quotient by the polynomial 0"), ("ByteFields", 299, "a root below 0"), ("ByteFields", 311, "no degree of a part"), ("ByteFields", 324, "the row must have at most 6, none an xor of those ahead"), ("ByteFields", 355, "there is no span yet"), ("ByteFields", 335, "the row must have one member for each of the span"), ("ByteFields", 343, "nothing that is told")]
/-- what may be caught as what, and what not -/
def bw_fc : Cond → Bool
  | .castable .. => true
  | .declares _ => true
  | _ => false
def bw_fw : List Cond := lw_tbl.filter bw_fc
def bw_nc : List (String × String) := [("java/lang/IllegalArgumentException", "java/lang/IllegalStateException"), ("java/lang/IllegalArgumentException", "java/lang/IndexOutOfBoundsException"), ("java/lang/IllegalArgumentException", "java/lang/ArithmeticException"), ("java/lang/IllegalArgumentException", "java/lang/UnsupportedOperationException"), ("java/lang/IllegalArgumentException", "java/lang/ArrayIndexOutOfBoundsException"), ("java/lang/IllegalStateException", "java/lang/IllegalArgumentException"), ("java/lang/IllegalStateException", "java/lang/IndexOutOfBoundsException"), ("java/lang/IllegalStateException", "java/lang/ArithmeticException"), ("java/lang/IllegalStateException", "java/lang/UnsupportedOperationException"), ("java/lang/IllegalStateException", "java/lang/ArrayIndexOutOfBoundsException"), ("java/lang/IndexOutOfBoundsException", "java/lang/IllegalArgumentException"), ("java/lang/IndexOutOfBoundsException", "java/lang/IllegalStateException"), ("java/lang/IndexOutOfBoundsException", "java/lang/ArithmeticException"), ("java/lang/IndexOutOfBoundsException", "java/lang/UnsupportedOperationException"), ("java/lang/IndexOutOfBoundsException", "java/lang/ArrayIndexOutOfBoundsException"), ("java/lang/ArithmeticException", "java/lang/IllegalArgumentException"), ("java/lang/ArithmeticException", "java/lang/IllegalStateException"), ("java/lang/ArithmeticException", "java/lang/IndexOutOfBoundsException"), ("java/lang/ArithmeticException", "java/lang/UnsupportedOperationException"), ("java/lang/ArithmeticException", "java/lang/ArrayIndexOutOfBoundsException"), ("java/lang/UnsupportedOperationException", "java/lang/IllegalArgumentException"), ("java/lang/UnsupportedOperationException", "java/lang/IllegalStateException"), ("java/lang/UnsupportedOperationException", "java/lang/IndexOutOfBoundsException"), ("java/lang/UnsupportedOperationException", "java/lang/ArithmeticException"), ("java/lang/UnsupportedOperationException", "java/lang/ArrayIndexOutOfBoundsException"), ("java/lang/ArrayIndexOutOfBoundsException", "java/lang/IllegalArgumentException"), ("java/lang/ArrayIndexOutOfBoundsException", "java/lang/IllegalStateException"), ("java/lang/ArrayIndexOutOfBoundsException", "java/lang/ArithmeticException"), ("java/lang/ArrayIndexOutOfBoundsException", "java/lang/UnsupportedOperationException")]
/-- the static facts, at the tables of U -/
def bw_gl (g : bw_G) (U : State) : Prop :=
  va_K g.1 vwCl (bw_ty g.2.1) U ∧
  (va_Z "ByteFields$Field" "PRIMES" "[I" (.ref g.2.2.2.1) (bw_fr g) U g.2.2.1 ∧ va_T .int g.2.2.2.1 4 (fun j => .int (bw_pr j)) (bw_fr g) U g.2.2.1) ∧
  (vx_Zq Bundle.tN "UNASSIGNED_STACK" Bundle.steD (bw_fr g) U g.2.2.1 ∧ vx_Zq Bundle.tN "SUPPRESSED_SENTINEL" Bundle.listD (bw_fr g) U g.2.2.1) ∧
  (∀ x ∈ bw_ss, ∃ sa : Nat, vk_R x.1 x.2.1 x.2.2 sa U) ∧
  (∀ w ∈ bw_fw, w.before #[] U = true) ∧ (∀ x ∈ bw_nc, va_Nc x.1 x.2 U) ∧ va_AO "ByteFields$Matrix" U ∧ va_AO "ByteFields$Polynomial" U ∧ (Cond.arrayOver (.array .int)).before #[] U = true ∧ va_X g.2.2.2.2.1 g.2.2.2.2.2.1 g.2.2.2.2.2.2 U g.2.2.1 ∧ g.2.2.2.2.1 < g.2.2.1.size
theorem bw_AA.moved {u U : State} (hvm : u.vm.Alike U.vm) (h : (Cond.arrayOver (.array .int)).before #[] u = true) : (Cond.arrayOver (.array .int)).before #[] U = true := by
  obtain ⟨comp, c, k, h1, h2, h3, h4, h5⟩ := arrayOverA_spec h
  obtain ⟨k', hk', he⟩ := hvm.2.2 _ _ h3
  have hi : (U.vm.classes.findIdx? fun (x : Class) => match x.kind with | .array component _ => component == comp | _ => false) = some c := by
    rw [hvm.findIdx?_eq _ (fun _ => rfl)]
    exact h2
  have hkind : k'.kind = .array comp (.array .int) := by rw [he]; exact h4
  have f1 : U.vm.findClass (FieldType.array .int).toString = some comp := by rw [hvm.findClass]; exact h1
  have f2 : U.vm.findClass ("[" ++ (FieldType.array .int).toString) = some c := by rw [hvm.findClass]; exact h5
  unfold Cond.before Cond.holds
  simp only [Cond.value]
  rw [f1, Option.bind_some]
  refine (congrArg (fun o : Option Nat => (o.bind (fun c => (U.vm.classes[c]?).map fun (k : Class) => match k.kind with | .array _ ty => decide (ty = FieldType.array .int) && decide (U.vm.findClass ("[" ++ (FieldType.array .int).toString) = some c) | _ => false) == some true)) hi).trans ?_
  simp [hk', hkind, f2]
theorem bw_fw.moved {u U : State} {w : Cond} (hw : w ∈ bw_fw) (hvm : u.vm.Alike U.vm) (h : w.before #[] u = true) : w.before #[] U = true := by
  have hf : bw_fc w = true := (List.mem_filter.mp hw).2
  have hfa : w.faceAtom = true ∧ w.onTables = true := by
    cases w <;> first | exact ⟨rfl, rfl⟩ | (cases hf)
  have h1 := Cond.faceAtom_setVm (args := #[]) hvm w hfa.1 h
  have h2 := Cond.onTables_vm (A := #[]) (A' := #[]) (U := u) (U' := U) U.vm w hfa.2
  rw [h1, State.setVm_self] at h2
  exact h2.symm
theorem bw_fw.use {U : State} {w : Cond} {args : Array Value} (hw : w ∈ bw_fw) (h : w.before #[] U = true) : w.before args U = true := by
  have hf : bw_fc w = true := (List.mem_filter.mp hw).2
  have hfa : w.onTables = true := by
    cases w <;> first | rfl | (cases hf)
  have h2 := Cond.onTables_vm (A := #[]) (A' := args) (U := U) (U' := U) U.vm w hfa
  rw [State.setVm_self] at h2
  rw [← h2]
  exact h
theorem bw_gl.warm {g : bw_G} {s U : State} (hW : s.WarmedH U.vm) (h : bw_gl g s) : bw_gl g U := by
  obtain ⟨h1, ⟨h2, h3⟩, ⟨h4, h5⟩, h6, h7, h8, h9, h10, h11, h12, h13⟩ := h
  refine ⟨va_K.moved hW.alike h1, ⟨va_Z.moved hW.alike h2, va_T.moved hW.alike h3⟩, ⟨vx_Zq.moved hW.alike h4, vx_Zq.moved hW.alike h5⟩, fun x hx => ?_, fun x hx => bw_fw.moved hx hW.alike (h7 x hx), fun x hx => va_Nc.moved hW.alike (h8 x hx), va_AO.moved hW.alike h9, va_AO.moved hW.alike h10, bw_AA.moved hW.alike h11, va_X.moved hW.alike h12, h13⟩
  obtain ⟨sa, h⟩ := h6 x hx
  exact ⟨sa, vk_R.warm hW h⟩
theorem bw_gl.same {g : bw_G} {s U : State} (hv : U.vm = s.vm) (h : bw_gl g s) : bw_gl g U := bw_gl.warm (by rw [hv]; exact State.WarmedH.refl s) h
/-- the heap H is as A says -/
def bw_R (g : bw_G) (A : bw_H) (H : Heap) : Prop :=
  H.size = A.1 ∧ bw_lo g ≤ A.1 ∧ (∀ q : Nat, q < bw_lo g → H[q]? = g.2.2.1[q]?) ∧ ∀ (a : Nat) (e : va_E), A.2 a = some e → bw_lo g ≤ a ∧ va_at g.1 vwCl (a, e) H
/-- name, bytes, locals, answer, table of handlers -/
abbrev bw_M : Type := MethodName × ByteArray × Nat × Option FieldType × List (Nat × Nat × Nat × Nat)
abbrev bw_O : Type := Option Value ⊕ String
def bw_q (g : bw_G) (Q : bw_O → bw_H → Prop) : Array Value → State → Outcome → State → Prop := fun _ _ o t => ∃ (v : Option Value) (A : bw_H), o = .returned v ∧ bw_R g A t.heap ∧ Q (.inl v) A
def bw_x (g : bw_G) (Q : bw_O → bw_H → Prop) : String → State → State → Prop := fun E _ t => ∃ A : bw_H, bw_R g A t.heap ∧ Q (.inr E) A
/-- what a walk of the method k stands on -/
def bw_X (g : bw_G) (k : bw_M) (p : Program) (l : Launch) (s : State) (m : MethodId) (args : Array Value) (meth : Method) (c : Code) : Prop :=
  p.tables.exec = Jvm.exec ∧ c.code = k.2.1 ∧ c.maxLocals = k.2.2.1 ∧ meth.sig.returnType = k.2.2.2.1 ∧ s.vm.findClass k.1.cls = some m.cls ∧ (∀ w ∈ bw_uw, w.before args s = true) ∧ meth.locks = false ∧ meth.name = k.1.name ∧
  c.exceptionTable.toList = tableOf k.2.2.2.2 ∧ l.stackTraces = false ∧ bw_gl g s ∧ (bw_lo g ≤ s.heap.size ∧ ∀ q : Nat, q < bw_lo g → s.heap[q]? = g.2.2.1[q]?)
/-- THE JUDGEMENT: method k, at pc, locals lv, operands st, heap A, comes to an end with Q; cu cells and su slots are made so far -/
def bw_W (g : bw_G) (R : Room) (k : bw_M) (Q : bw_O → bw_H → Prop) (cu su pc : Nat) (lv : List (Nat × Value)) (st : List Value) (A : bw_H) : Prop :=
  ∀ (p : Program) (l : Launch) (e : Env) (s : State) (m : MethodId) (args : Array Value) (below : List Frame) (meth : Method) (c : Code) (H : Heap) (locs : List Loc) (ls : Array Slot),
    bw_X g k p l s m args meth c → bw_R g A H → s.heap.size ≤ H.size → (∀ z ∈ locs, bw_lo g ≤ z.base) → lv_has ls k.2.2.1 lv →
    W p l e R s m args below meth c H locs cu su (vx_MQ below (bw_q g Q) (bw_x g Q) args s R.cells R.slots (bw_fr g)) (F0 m pc ls st)
/-- A CONTRACT: method k from arguments av and heap A ends with Q, in the room R -/
def bw_C (g : bw_G) (R : Room) (k : bw_M) (av : List Value) (A : bw_H) (Q : bw_O → bw_H → Prop) : Prop :=
  ∀ l : Launch, l.stackTraces = false → vx_Met l k.1 (.code k.1 k.2.1 k.2.2.1 k.2.2.2.1 :: bw_uw) R (va_Pc av (fun U => bw_gl g U ∧ bw_R g A U.heap)) (bw_q g Q) (bw_x g Q) R.cells R.slots (bw_fr g)
/-- the same of a method with a table of handlers -/
def bw_CH (g : bw_G) (R : Room) (k : bw_M) (av : List Value) (A : bw_H) (Q : bw_O → bw_H → Prop) : Prop :=
  ∀ l : Launch, l.stackTraces = false → vx_Met l k.1 (.codeWith k.1 k.2.1 k.2.2.1 k.2.2.2.1 k.2.2.2.2 :: bw_uw) R (va_Pc av (fun U => bw_gl g U ∧ bw_R g A U.heap)) (bw_q g Q) (bw_x g Q) R.cells R.slots (bw_fr g)
section BWC
variable {g : bw_G} {R : Room} {k : bw_M} {Q : bw_O → bw_H → Prop} {A : bw_H} {av : List Value}
theorem bw_C.of (hy : plainName k.1.cls = true) (hn : (lg_sl av).length ≤ k.2.2.1) (ht : k.2.2.2.2 = []) (body : bw_W g R k Q 0 0 0 (lv_args 0 av) [] A) : bw_C g R k av A Q := by
  intro l htr
  refine vx_ofW hy rfl ?_
  intro p e s m args below meth c s₁ B hml hnt hP
  obtain ⟨rfl, hgl, hR⟩ := hP
  have hts := atoms_spec (ws := .code k.1 k.2.1 k.2.2.1 k.2.2.2.1 :: bw_uw) B.pre
  rw [lg_entry_eq]
  refine body p l e s m _ below meth c s.heap [] _ ⟨B.exec, B.bytes, hml, B.returns, findClass_of_methodNamed B.named, fun w h => hts w (List.mem_cons_of_mem _ h), B.notSynchronized, (name_of_methodNamed B.named B.method).1, ?_, htr, hgl, ⟨by rw [hR.1]; exact hR.2.1, hR.2.2.1⟩⟩ hR (Nat.le_refl _) (fun z h => by cases h) (lv_entry av hn)
  rw [ht]
  have : c.exceptionTable.toList = [] := List.eq_nil_iff_forall_not_mem.mpr fun x hx => hnt x hx
  rw [this]
  rfl
theorem bw_CH.of (hy : plainName k.1.cls = true) (hn : (lg_sl av).length ≤ k.2.2.1) (body : bw_W g R k Q 0 0 0 (lv_args 0 av) [] A) : bw_CH g R k av A Q := by
  intro l htr
  refine vx_ofWH hy rfl ?_
  intro p e s m args below meth c s₁ B hml hP
  obtain ⟨rfl, hgl, hR⟩ := hP
  have hts := atoms_spec (ws := .codeWith k.1 k.2.1 k.2.2.1 k.2.2.2.1 k.2.2.2.2 :: bw_uw) B.pre
  rw [lg_entry_eq]
  exact body p l e s m _ below meth c s.heap [] _ ⟨B.exec, B.bytes, hml, B.returns, findClass_of_methodNamed B.named, fun w h => hts w (List.mem_cons_of_mem _ h), B.notSynchronized, (name_of_methodNamed B.named B.method).1, vx_table (x := k.1) B (hts _ List.mem_cons_self), htr, hgl, ⟨by rw [hR.1]; exact hR.2.1, hR.2.2.1⟩⟩ hR (Nat.le_refl _) (fun z h => by cases h) (lv_entry av hn)
end BWC
/-! locals -/
def bw_lk : List (Nat × Value) → Nat → Option Value
  | [], _ => none
  | (j, v) :: r, i => if j = i then some v else bw_lk r i
theorem bw_lk_mem : ∀ {lv : List (Nat × Value)} {i : Nat} {v : Value}, bw_lk lv i = some v → (i, v) ∈ lv
  | [], _, _, h => by cases h
  | (j, w) :: r, i, v, h => by
    unfold bw_lk at h
    split at h
    · rename_i e
      cases h
      rw [e]
      exact List.mem_cons_self
    · exact List.mem_cons_of_mem _ (bw_lk_mem h)
theorem bw_lk_at {ls : Array Slot} {n : Nat} {lv : List (Nat × Value)} (hv : lv_has ls n lv) {i : Nat} {v : Value} (h : bw_lk lv i = some v) : ls[i]? = some (.val v) := hv.2.2 (i, v) (bw_lk_mem h)
abbrev bw_st (lv : List (Nat × Value)) (i : Nat) (v : Value) : List (Nat × Value) := (i, v) :: lv.filter (fun q => !(q.1 == i) && !(q.1 + 1 == i && q.2.category == 2))
abbrev bw_st2 (lv : List (Nat × Value)) (i : Nat) (v : Value) : List (Nat × Value) := (i, v) :: lv.filter (fun q => !(q.1 == i) && (!(q.1 == i + 1) && !(q.1 + 1 == i && q.2.category == 2)))
/-- fewer locals are told -/
def bw_sub (lv : List (Nat × Value)) : List (Nat × Value) → Prop
  | [] => True
  | (i, v) :: r => bw_lk lv i = some v ∧ bw_sub lv r
theorem bw_sub.mem {lv : List (Nat × Value)} : ∀ {r : List (Nat × Value)}, bw_sub lv r → ∀ q ∈ r, q ∈ lv
  | [], _, q, h => by cases h
  | (i, v) :: r, hs, q, h => by
    rcases List.mem_cons.mp h with e | h
    · rw [e]; exact bw_lk_mem hs.1
    · exact bw_sub.mem hs.2 q h

section BWR
variable {g : bw_G} {R : Room} {k : bw_M} {Q : bw_O → bw_H → Prop} {cu su pc : Nat} {lv : List (Nat × Value)} {st : List Value} {A : bw_H}
set_option linter.unusedVariables false

theorem bw_iconst {n : Int} (v : Int32) (pc' : Nat) (hd : decode k.2.1 pc = .ok (.iconst n, 1)) (hv0 : Int32.ofInt n = v) (hp : pc + 1 = pc') (kk : bw_W g R k Q cu su pc' lv (.int v :: st) A) : bw_W g R k Q cu su pc lv (st) A := by
  intro p l e s m args below meth c H locs ls hX hR hs hl hv
  subst hp
  exact lv_iconst hX.1 hX.2.1 hd hv0 (kk p l e s m args below meth c H locs ls hX hR hs hl hv)

theorem bw_bipush {n : Int} (v : Int32) (pc' : Nat) (hd : decode k.2.1 pc = .ok (.bipush n, 2)) (hv0 : (Int8.ofInt n).toInt32 = v) (hp : pc + 2 = pc') (kk : bw_W g R k Q cu su pc' lv (.int v :: st) A) : bw_W g R k Q cu su pc lv (st) A := by
  intro p l e s m args below meth c H locs ls hX hR hs hl hv
  subst hp
  exact lv_bipush hX.1 hX.2.1 hd hv0 (kk p l e s m args below meth c H locs ls hX hR hs hl hv)

theorem bw_sipush {n : Int} (v : Int32) (pc' : Nat) (hd : decode k.2.1 pc = .ok (.sipush n, 3)) (hv0 : (Int16.ofInt n).toInt32 = v) (hp : pc + 3 = pc') (kk : bw_W g R k Q cu su pc' lv (.int v :: st) A) : bw_W g R k Q cu su pc lv (st) A := by
  intro p l e s m args below meth c H locs ls hX hR hs hl hv
  subst hp
  exact lv_sipush hX.1 hX.2.1 hd hv0 (kk p l e s m args below meth c H locs ls hX hR hs hl hv)

theorem bw_lconst {n : Fin 2} (v : Int64) (pc' : Nat) (hd : decode k.2.1 pc = .ok (.lconst n, 1)) (hv0 : Int64.ofNat (n : Nat) = v) (hp : pc + 1 = pc') (kk : bw_W g R k Q cu su pc' lv (.long v :: st) A) : bw_W g R k Q cu su pc lv (st) A := by
  intro p l e s m args below meth c H locs ls hX hR hs hl hv
  subst hp
  exact lv_lconst hX.1 hX.2.1 hd hv0 (kk p l e s m args below meth c H locs ls hX hR hs hl hv)

theorem bw_null  (pc' : Nat) (hd : decode k.2.1 pc = .ok (.aconst_null, 1)) (hp : pc + 1 = pc') (kk : bw_W g R k Q cu su pc' lv (.null :: st) A) : bw_W g R k Q cu su pc lv (st) A := by
  intro p l e s m args below meth c H locs ls hX hR hs hl hv
  subst hp
  exact lv_null hX.1 hX.2.1 hd (kk p l e s m args below meth c H locs ls hX hR hs hl hv)

theorem bw_ldc {i : Nat} {v : Int32} (pc' : Nat) (hd : decode k.2.1 pc = .ok (.ldc i, 2)) (hc : Cond.constant k.1.cls i v ∈ bw_uw) (hp : pc + 2 = pc') (kk : bw_W g R k Q cu su pc' lv (.int v :: st) A) : bw_W g R k Q cu su pc lv (st) A := by
  intro p l e s m args below meth c H locs ls hX hR hs hl hv
  subst hp
  exact lv_ldc hX.1 hX.2.1 hX.2.2.2.2.1 (hX.2.2.2.2.2.1 _ hc) hd (kk p l e s m args below meth c H locs ls hX hR hs hl hv)

theorem bw_ldcw {i : Nat} {v : Int32} (pc' : Nat) (hd : decode k.2.1 pc = .ok (.ldc_w i, 3)) (hc : Cond.constant k.1.cls i v ∈ bw_uw) (hp : pc + 3 = pc') (kk : bw_W g R k Q cu su pc' lv (.int v :: st) A) : bw_W g R k Q cu su pc lv (st) A := by
  intro p l e s m args below meth c H locs ls hX hR hs hl hv
  subst hp
  exact lv_ldcw hX.1 hX.2.1 hX.2.2.2.2.1 (hX.2.2.2.2.2.1 _ hc) hd (kk p l e s m args below meth c H locs ls hX hR hs hl hv)

theorem bw_ldc2 {i : Nat} {v : Int64} (pc' : Nat) (hd : decode k.2.1 pc = .ok (.ldc2_w i, 3)) (hc : Cond.constantLong k.1.cls i v ∈ bw_uw) (hp : pc + 3 = pc') (kk : bw_W g R k Q cu su pc' lv (.long v :: st) A) : bw_W g R k Q cu su pc lv (st) A := by
  intro p l e s m args below meth c H locs ls hX hR hs hl hv
  subst hp
  exact lv_ldc2 hX.1 hX.2.1 hX.2.2.2.2.1 (hX.2.2.2.2.2.1 _ hc) hd (kk p l e s m args below meth c H locs ls hX hR hs hl hv)

theorem bw_iload_n {i : Fin 4} {x : Int32} (pc' : Nat) (hd : decode k.2.1 pc = .ok (.iload_n i, 1)) (hx : bw_lk lv (i : Nat) = some (.int x)) (hp : pc + 1 = pc') (kk : bw_W g R k Q cu su pc' lv (.int x :: st) A) : bw_W g R k Q cu su pc lv (st) A := by
  intro p l e s m args below meth c H locs ls hX hR hs hl hv
  subst hp
  exact lv_iload_n hX.1 hX.2.1 hd rfl (bw_lk_at hv hx) (kk p l e s m args below meth c H locs ls hX hR hs hl hv)

theorem bw_iload {i : Nat} {x : Int32} (pc' : Nat) (hd : decode k.2.1 pc = .ok (.iload i, 2)) (hx : bw_lk lv i = some (.int x)) (hp : pc + 2 = pc') (kk : bw_W g R k Q cu su pc' lv (.int x :: st) A) : bw_W g R k Q cu su pc lv (st) A := by
  intro p l e s m args below meth c H locs ls hX hR hs hl hv
  subst hp
  exact lv_iload hX.1 hX.2.1 hd (bw_lk_at hv hx) (kk p l e s m args below meth c H locs ls hX hR hs hl hv)

theorem bw_lload_n {i : Fin 4} {x : Int64} (pc' : Nat) (hd : decode k.2.1 pc = .ok (.lload_n i, 1)) (hx : bw_lk lv (i : Nat) = some (.long x)) (hp : pc + 1 = pc') (kk : bw_W g R k Q cu su pc' lv (.long x :: st) A) : bw_W g R k Q cu su pc lv (st) A := by
  intro p l e s m args below meth c H locs ls hX hR hs hl hv
  subst hp
  exact lv_lload_n hX.1 hX.2.1 hd rfl (bw_lk_at hv hx) (kk p l e s m args below meth c H locs ls hX hR hs hl hv)

theorem bw_lload {i : Nat} {x : Int64} (pc' : Nat) (hd : decode k.2.1 pc = .ok (.lload i, 2)) (hx : bw_lk lv i = some (.long x)) (hp : pc + 2 = pc') (kk : bw_W g R k Q cu su pc' lv (.long x :: st) A) : bw_W g R k Q cu su pc lv (st) A := by
  intro p l e s m args below meth c H locs ls hX hR hs hl hv
  subst hp
  exact lv_lload hX.1 hX.2.1 hd (bw_lk_at hv hx) (kk p l e s m args below meth c H locs ls hX hR hs hl hv)

theorem bw_aload_n {i : Fin 4} {x : Nat} (pc' : Nat) (hd : decode k.2.1 pc = .ok (.aload_n i, 1)) (hx : bw_lk lv (i : Nat) = some (.ref x)) (hp : pc + 1 = pc') (kk : bw_W g R k Q cu su pc' lv (.ref x :: st) A) : bw_W g R k Q cu su pc lv (st) A := by
  intro p l e s m args below meth c H locs ls hX hR hs hl hv
  subst hp
  exact lv_aload_n hX.1 hX.2.1 hd rfl (bw_lk_at hv hx) (kk p l e s m args below meth c H locs ls hX hR hs hl hv)

theorem bw_aload {i : Nat} {x : Nat} (pc' : Nat) (hd : decode k.2.1 pc = .ok (.aload i, 2)) (hx : bw_lk lv i = some (.ref x)) (hp : pc + 2 = pc') (kk : bw_W g R k Q cu su pc' lv (.ref x :: st) A) : bw_W g R k Q cu su pc lv (st) A := by
  intro p l e s m args below meth c H locs ls hX hR hs hl hv
  subst hp
  exact lv_aload hX.1 hX.2.1 hd (bw_lk_at hv hx) (kk p l e s m args below meth c H locs ls hX hR hs hl hv)

theorem bw_aloadN_n {i : Fin 4} (pc' : Nat) (hd : decode k.2.1 pc = .ok (.aload_n i, 1)) (hx : bw_lk lv (i : Nat) = some .null) (hp : pc + 1 = pc') (kk : bw_W g R k Q cu su pc' lv (.null :: st) A) : bw_W g R k Q cu su pc lv (st) A := by
  intro p l e s m args below meth c H locs ls hX hR hs hl hv
  subst hp
  exact lv_aload_nN hX.1 hX.2.1 hd rfl (bw_lk_at hv hx) (kk p l e s m args below meth c H locs ls hX hR hs hl hv)

theorem bw_aloadN {i : Nat} (pc' : Nat) (hd : decode k.2.1 pc = .ok (.aload i, 2)) (hx : bw_lk lv i = some .null) (hp : pc + 2 = pc') (kk : bw_W g R k Q cu su pc' lv (.null :: st) A) : bw_W g R k Q cu su pc lv (st) A := by
  intro p l e s m args below meth c H locs ls hX hR hs hl hv
  subst hp
  exact lv_aloadN hX.1 hX.2.1 hd (bw_lk_at hv hx) (kk p l e s m args below meth c H locs ls hX hR hs hl hv)

theorem bw_istore_n {i : Fin 4} {x : Int32} (pc' : Nat) (hd : decode k.2.1 pc = .ok (.istore_n i, 1)) (hp : pc + 1 = pc') (hn : (i : Nat) < k.2.2.1) (kk : bw_W g R k Q cu su pc' (bw_st lv (i : Nat) (.int x)) st A) : bw_W g R k Q cu su pc lv (.int x :: st) A := by
  intro p l e s m args below meth c H locs ls hX hR hs hl hv
  subst hp
  exact lv_istore_n hX.1 hX.2.1 hd rfl hv hn rfl (fun ls hv => kk p l e s m args below meth c H locs ls hX hR hs hl hv)

theorem bw_istore {i : Nat} {x : Int32} (pc' : Nat) (hd : decode k.2.1 pc = .ok (.istore i, 2)) (hp : pc + 2 = pc') (hn : (i : Nat) < k.2.2.1) (kk : bw_W g R k Q cu su pc' (bw_st lv i (.int x)) st A) : bw_W g R k Q cu su pc lv (.int x :: st) A := by
  intro p l e s m args below meth c H locs ls hX hR hs hl hv
  subst hp
  exact lv_istore hX.1 hX.2.1 hd  hv hn rfl (fun ls hv => kk p l e s m args below meth c H locs ls hX hR hs hl hv)

theorem bw_astore_n {i : Fin 4} {x : Nat} (pc' : Nat) (hd : decode k.2.1 pc = .ok (.astore_n i, 1)) (hp : pc + 1 = pc') (hn : (i : Nat) < k.2.2.1) (kk : bw_W g R k Q cu su pc' (bw_st lv (i : Nat) (.ref x)) st A) : bw_W g R k Q cu su pc lv (.ref x :: st) A := by
  intro p l e s m args below meth c H locs ls hX hR hs hl hv
  subst hp
  exact lv_astore_n hX.1 hX.2.1 hd rfl hv hn rfl (fun ls hv => kk p l e s m args below meth c H locs ls hX hR hs hl hv)

theorem bw_astore {i : Nat} {x : Nat} (pc' : Nat) (hd : decode k.2.1 pc = .ok (.astore i, 2)) (hp : pc + 2 = pc') (hn : (i : Nat) < k.2.2.1) (kk : bw_W g R k Q cu su pc' (bw_st lv i (.ref x)) st A) : bw_W g R k Q cu su pc lv (.ref x :: st) A := by
  intro p l e s m args below meth c H locs ls hX hR hs hl hv
  subst hp
  exact lv_astore hX.1 hX.2.1 hd  hv hn rfl (fun ls hv => kk p l e s m args below meth c H locs ls hX hR hs hl hv)

theorem bw_astoreN_n {i : Fin 4} (pc' : Nat) (hd : decode k.2.1 pc = .ok (.astore_n i, 1)) (hp : pc + 1 = pc') (hn : (i : Nat) < k.2.2.1) (kk : bw_W g R k Q cu su pc' (bw_st lv (i : Nat) .null) st A) : bw_W g R k Q cu su pc lv (.null :: st) A := by
  intro p l e s m args below meth c H locs ls hX hR hs hl hv
  subst hp
  exact lv_astore_nN hX.1 hX.2.1 hd rfl hv hn rfl (fun ls hv => kk p l e s m args below meth c H locs ls hX hR hs hl hv)

theorem bw_astoreN {i : Nat} (pc' : Nat) (hd : decode k.2.1 pc = .ok (.astore i, 2)) (hp : pc + 2 = pc') (hn : (i : Nat) < k.2.2.1) (kk : bw_W g R k Q cu su pc' (bw_st lv i .null) st A) : bw_W g R k Q cu su pc lv (.null :: st) A := by
  intro p l e s m args below meth c H locs ls hX hR hs hl hv
  subst hp
  exact lv_astoreN hX.1 hX.2.1 hd  hv hn rfl (fun ls hv => kk p l e s m args below meth c H locs ls hX hR hs hl hv)

theorem bw_lstore {i : Nat} {x : Int64} (pc' : Nat) (hd : decode k.2.1 pc = .ok (.lstore i, 2)) (hp : pc + 2 = pc') (hn : (i : Nat) + 1 < k.2.2.1) (kk : bw_W g R k Q cu su pc' (bw_st2 lv i (.long x)) st A) : bw_W g R k Q cu su pc lv (.long x :: st) A := by
  intro p l e s m args below meth c H locs ls hX hR hs hl hv
  subst hp
  exact lv_lstore hX.1 hX.2.1 hd  hv hn rfl (fun ls hv => kk p l e s m args below meth c H locs ls hX hR hs hl hv)

theorem bw_lstore_n {i : Fin 4} {x : Int64} (pc' : Nat) (hd : decode k.2.1 pc = .ok (.lstore_n i, 1)) (hp : pc + 1 = pc') (hn : (i : Nat) + 1 < k.2.2.1) (kk : bw_W g R k Q cu su pc' (bw_st2 lv (i : Nat) (.long x)) st A) : bw_W g R k Q cu su pc lv (.long x :: st) A := by
  intro p l e s m args below meth c H locs ls hX hR hs hl hv
  subst hp
  exact lv_lstore_n hX.1 hX.2.1 hd rfl hv hn rfl (fun ls hv => kk p l e s m args below meth c H locs ls hX hR hs hl hv)

theorem bw_iinc {i : Nat} {n : Int} {x : Int32} (v : Int32) (pc' : Nat) (hd : decode k.2.1 pc = .ok (.iinc i n, 3)) (hp : pc + 3 = pc') (hx : bw_lk lv i = some (.int x)) (hv0 : x + Int32.ofInt n = v) (hn : i < k.2.2.1) (kk : bw_W g R k Q cu su pc' (bw_st lv i (.int v)) st A) : bw_W g R k Q cu su pc lv st A := by
  intro p l e s m args below meth c H locs ls hX hR hs hl hv
  subst hp
  obtain ⟨j, hj⟩ := List.getElem?_of_mem (bw_lk_mem hx)
  exact lv_iinc hX.1 hX.2.1 hd hv hj hv0 hn rfl (fun ls hv => kk p l e s m args below meth c H locs ls hX hR hs hl hv)

theorem bw_iadd {x y : Int32} (pc' : Nat) (hd : decode k.2.1 pc = .ok (.iadd, 1)) (hp : pc + 1 = pc') (kk : bw_W g R k Q cu su pc' lv (.int (x + y) :: st) A) : bw_W g R k Q cu su pc lv (.int y :: .int x :: st) A := by
  intro p l e s m args below meth c H locs ls hX hR hs hl hv
  subst hp
  exact lv_iadd hX.1 hX.2.1 hd (kk p l e s m args below meth c H locs ls hX hR hs hl hv)

theorem bw_isub {x y : Int32} (pc' : Nat) (hd : decode k.2.1 pc = .ok (.isub, 1)) (hp : pc + 1 = pc') (kk : bw_W g R k Q cu su pc' lv (.int (x - y) :: st) A) : bw_W g R k Q cu su pc lv (.int y :: .int x :: st) A := by
  intro p l e s m args below meth c H locs ls hX hR hs hl hv
  subst hp
  exact lv_isub hX.1 hX.2.1 hd (kk p l e s m args below meth c H locs ls hX hR hs hl hv)

theorem bw_imul {x y : Int32} (pc' : Nat) (hd : decode k.2.1 pc = .ok (.imul, 1)) (hp : pc + 1 = pc') (kk : bw_W g R k Q cu su pc' lv (.int (x * y) :: st) A) : bw_W g R k Q cu su pc lv (.int y :: .int x :: st) A := by
  intro p l e s m args below meth c H locs ls hX hR hs hl hv
  subst hp
  exact lv_imul hX.1 hX.2.1 hd (kk p l e s m args below meth c H locs ls hX hR hs hl hv)

theorem bw_iand {x y : Int32} (pc' : Nat) (hd : decode k.2.1 pc = .ok (.iand, 1)) (hp : pc + 1 = pc') (kk : bw_W g R k Q cu su pc' lv (.int (x &&& y) :: st) A) : bw_W g R k Q cu su pc lv (.int y :: .int x :: st) A := by
  intro p l e s m args below meth c H locs ls hX hR hs hl hv
  subst hp
  exact lv_iand hX.1 hX.2.1 hd (kk p l e s m args below meth c H locs ls hX hR hs hl hv)

theorem bw_ior {x y : Int32} (pc' : Nat) (hd : decode k.2.1 pc = .ok (.ior, 1)) (hp : pc + 1 = pc') (kk : bw_W g R k Q cu su pc' lv (.int (x ||| y) :: st) A) : bw_W g R k Q cu su pc lv (.int y :: .int x :: st) A := by
  intro p l e s m args below meth c H locs ls hX hR hs hl hv
  subst hp
  exact lv_ior hX.1 hX.2.1 hd (kk p l e s m args below meth c H locs ls hX hR hs hl hv)

theorem bw_ixor {x y : Int32} (pc' : Nat) (hd : decode k.2.1 pc = .ok (.ixor, 1)) (hp : pc + 1 = pc') (kk : bw_W g R k Q cu su pc' lv (.int (x ^^^ y) :: st) A) : bw_W g R k Q cu su pc lv (.int y :: .int x :: st) A := by
  intro p l e s m args below meth c H locs ls hX hR hs hl hv
  subst hp
  exact lv_ixor hX.1 hX.2.1 hd (kk p l e s m args below meth c H locs ls hX hR hs hl hv)

theorem bw_ishl {x y : Int32} (pc' : Nat) (hd : decode k.2.1 pc = .ok (.ishl, 1)) (hp : pc + 1 = pc') (kk : bw_W g R k Q cu su pc' lv (.int (x <<< (y &&& 31)) :: st) A) : bw_W g R k Q cu su pc lv (.int y :: .int x :: st) A := by
  intro p l e s m args below meth c H locs ls hX hR hs hl hv
  subst hp
  exact lv_ishl hX.1 hX.2.1 hd (kk p l e s m args below meth c H locs ls hX hR hs hl hv)

theorem bw_ishr {x y : Int32} (pc' : Nat) (hd : decode k.2.1 pc = .ok (.ishr, 1)) (hp : pc + 1 = pc') (kk : bw_W g R k Q cu su pc' lv (.int (x >>> (y &&& 31)) :: st) A) : bw_W g R k Q cu su pc lv (.int y :: .int x :: st) A := by
  intro p l e s m args below meth c H locs ls hX hR hs hl hv
  subst hp
  exact lv_ishr hX.1 hX.2.1 hd (kk p l e s m args below meth c H locs ls hX hR hs hl hv)

theorem bw_iushr {x y : Int32} (pc' : Nat) (hd : decode k.2.1 pc = .ok (.iushr, 1)) (hp : pc + 1 = pc') (kk : bw_W g R k Q cu su pc' lv (.int ((x.toUInt32 >>> (y.toUInt32 &&& Int32.toUInt32 31)).toInt32) :: st) A) : bw_W g R k Q cu su pc lv (.int y :: .int x :: st) A := by
  intro p l e s m args below meth c H locs ls hX hR hs hl hv
  subst hp
  exact lv_iushr hX.1 hX.2.1 hd rfl (kk p l e s m args below meth c H locs ls hX hR hs hl hv)

theorem bw_idiv {x y : Int32} (pc' : Nat) (hd : decode k.2.1 pc = .ok (.idiv, 1)) (h0 : ¬ y = 0) (hp : pc + 1 = pc') (kk : bw_W g R k Q cu su pc' lv (.int (x / y) :: st) A) : bw_W g R k Q cu su pc lv (.int y :: .int x :: st) A := by
  intro p l e s m args below meth c H locs ls hX hR hs hl hv
  subst hp
  exact lv_idiv hX.1 hX.2.1 hd h0 (kk p l e s m args below meth c H locs ls hX hR hs hl hv)

theorem bw_irem {x y : Int32} (pc' : Nat) (hd : decode k.2.1 pc = .ok (.irem, 1)) (h0 : ¬ y = 0) (hp : pc + 1 = pc') (kk : bw_W g R k Q cu su pc' lv (.int (x - x / y * y) :: st) A) : bw_W g R k Q cu su pc lv (.int y :: .int x :: st) A := by
  intro p l e s m args below meth c H locs ls hX hR hs hl hv
  subst hp
  exact lv_irem hX.1 hX.2.1 hd h0 (kk p l e s m args below meth c H locs ls hX hR hs hl hv)

theorem bw_lrem {x y : Int64} (pc' : Nat) (hd : decode k.2.1 pc = .ok (.lrem, 1)) (h0 : ¬ y = 0) (hp : pc + 1 = pc') (kk : bw_W g R k Q cu su pc' lv (.long (x - x / y * y) :: st) A) : bw_W g R k Q cu su pc lv (.long y :: .long x :: st) A := by
  intro p l e s m args below meth c H locs ls hX hR hs hl hv
  subst hp
  exact lv_lrem hX.1 hX.2.1 hd h0 (kk p l e s m args below meth c H locs ls hX hR hs hl hv)

theorem bw_ladd {x y : Int64} (pc' : Nat) (hd : decode k.2.1 pc = .ok (.ladd, 1)) (hp : pc + 1 = pc') (kk : bw_W g R k Q cu su pc' lv (.long (x + y) :: st) A) : bw_W g R k Q cu su pc lv (.long y :: .long x :: st) A := by
  intro p l e s m args below meth c H locs ls hX hR hs hl hv
  subst hp
  exact lv_ladd hX.1 hX.2.1 hd (kk p l e s m args below meth c H locs ls hX hR hs hl hv)

theorem bw_lsub {x y : Int64} (pc' : Nat) (hd : decode k.2.1 pc = .ok (.lsub, 1)) (hp : pc + 1 = pc') (kk : bw_W g R k Q cu su pc' lv (.long (x - y) :: st) A) : bw_W g R k Q cu su pc lv (.long y :: .long x :: st) A := by
  intro p l e s m args below meth c H locs ls hX hR hs hl hv
  subst hp
  exact lv_lsub hX.1 hX.2.1 hd (kk p l e s m args below meth c H locs ls hX hR hs hl hv)

theorem bw_lmul {x y : Int64} (pc' : Nat) (hd : decode k.2.1 pc = .ok (.lmul, 1)) (hp : pc + 1 = pc') (kk : bw_W g R k Q cu su pc' lv (.long (x * y) :: st) A) : bw_W g R k Q cu su pc lv (.long y :: .long x :: st) A := by
  intro p l e s m args below meth c H locs ls hX hR hs hl hv
  subst hp
  exact lv_lmul hX.1 hX.2.1 hd (kk p l e s m args below meth c H locs ls hX hR hs hl hv)

theorem bw_land {x y : Int64} (pc' : Nat) (hd : decode k.2.1 pc = .ok (.land, 1)) (hp : pc + 1 = pc') (kk : bw_W g R k Q cu su pc' lv (.long (x &&& y) :: st) A) : bw_W g R k Q cu su pc lv (.long y :: .long x :: st) A := by
  intro p l e s m args below meth c H locs ls hX hR hs hl hv
  subst hp
  exact lv_land hX.1 hX.2.1 hd (kk p l e s m args below meth c H locs ls hX hR hs hl hv)

theorem bw_lor {x y : Int64} (pc' : Nat) (hd : decode k.2.1 pc = .ok (.lor, 1)) (hp : pc + 1 = pc') (kk : bw_W g R k Q cu su pc' lv (.long (x ||| y) :: st) A) : bw_W g R k Q cu su pc lv (.long y :: .long x :: st) A := by
  intro p l e s m args below meth c H locs ls hX hR hs hl hv
  subst hp
  exact lv_lor hX.1 hX.2.1 hd (kk p l e s m args below meth c H locs ls hX hR hs hl hv)

theorem bw_lshl {x : Int64} {y : Int32} (pc' : Nat) (hd : decode k.2.1 pc = .ok (.lshl, 1)) (hp : pc + 1 = pc') (kk : bw_W g R k Q cu su pc' lv (.long (x <<< (y.toInt64 &&& 63)) :: st) A) : bw_W g R k Q cu su pc lv (.int y :: .long x :: st) A := by
  intro p l e s m args below meth c H locs ls hX hR hs hl hv
  subst hp
  exact lv_lshl hX.1 hX.2.1 hd rfl (kk p l e s m args below meth c H locs ls hX hR hs hl hv)

theorem bw_i2l {x : Int32} (pc' : Nat) (hd : decode k.2.1 pc = .ok (.i2l, 1)) (hp : pc + 1 = pc') (kk : bw_W g R k Q cu su pc' lv (.long x.toInt64 :: st) A) : bw_W g R k Q cu su pc lv (.int x :: st) A := by
  intro p l e s m args below meth c H locs ls hX hR hs hl hv
  subst hp
  exact lv_i2l hX.1 hX.2.1 hd rfl (kk p l e s m args below meth c H locs ls hX hR hs hl hv)

theorem bw_l2i {x : Int64} (pc' : Nat) (hd : decode k.2.1 pc = .ok (.l2i, 1)) (hp : pc + 1 = pc') (kk : bw_W g R k Q cu su pc' lv (.int x.toInt32 :: st) A) : bw_W g R k Q cu su pc lv (.long x :: st) A := by
  intro p l e s m args below meth c H locs ls hX hR hs hl hv
  subst hp
  exact lv_l2i hX.1 hX.2.1 hd rfl (kk p l e s m args below meth c H locs ls hX hR hs hl hv)

theorem bw_lcmp {x y : Int64} (pc' : Nat) (hd : decode k.2.1 pc = .ok (.lcmp, 1)) (hp : pc + 1 = pc') (kk : bw_W g R k Q cu su pc' lv (.int (lg_cmp x y) :: st) A) : bw_W g R k Q cu su pc lv (.long y :: .long x :: st) A := by
  intro p l e s m args below meth c H locs ls hX hR hs hl hv
  subst hp
  exact W.lcmp hX.1 hX.2.1 hd (kk p l e s m args below meth c H locs ls hX hR hs hl hv)

theorem bw_dup {v : Value} (pc' : Nat) (hd : decode k.2.1 pc = .ok (.dup, 1)) (hc : v.category = 1) (hp : pc + 1 = pc') (kk : bw_W g R k Q cu su pc' lv (v :: v :: st) A) : bw_W g R k Q cu su pc lv (v :: st) A := by
  intro p l e s m args below meth c H locs ls hX hR hs hl hv
  subst hp
  exact lv_dup hX.1 hX.2.1 hd hc (kk p l e s m args below meth c H locs ls hX hR hs hl hv)

theorem bw_dup2 {v w : Value} (pc' : Nat) (hd : decode k.2.1 pc = .ok (.dup2, 1)) (hc : v.category = 1) (hc2 : w.category = 1) (hp : pc + 1 = pc') (kk : bw_W g R k Q cu su pc' lv (v :: w :: v :: w :: st) A) : bw_W g R k Q cu su pc lv (v :: w :: st) A := by
  intro p l e s m args below meth c H locs ls hX hR hs hl hv
  subst hp
  exact lv_dup2_11 hX.1 hX.2.1 hd hc hc2 (kk p l e s m args below meth c H locs ls hX hR hs hl hv)

theorem bw_if_eq {x : Int32} {off : Int} (tgt pc' : Nat) (hd : decode k.2.1 pc = .ok (.ifCond .eq off, 3)) (ht : (pc : Int) + off = (tgt : Int)) (hp : pc + 3 = pc') (kt : x = 0 → bw_W g R k Q cu su tgt lv st A) (kf : ¬ (x = 0) → bw_W g R k Q cu su pc' lv st A) : bw_W g R k Q cu su pc lv (.int x :: st) A := by
  intro p l e s m args below meth c H locs ls hX hR hs hl hv
  subst hp
  exact lv_if_eq hX.1 hX.2.1 hd ht (fun hb => kt hb p l e s m args below meth c H locs ls hX hR hs hl hv) (fun hb => kf hb p l e s m args below meth c H locs ls hX hR hs hl hv)

theorem bw_if_ne {x : Int32} {off : Int} (tgt pc' : Nat) (hd : decode k.2.1 pc = .ok (.ifCond .ne off, 3)) (ht : (pc : Int) + off = (tgt : Int)) (hp : pc + 3 = pc') (kt : ¬ x = 0 → bw_W g R k Q cu su tgt lv st A) (kf : x = 0 → bw_W g R k Q cu su pc' lv st A) : bw_W g R k Q cu su pc lv (.int x :: st) A := by
  intro p l e s m args below meth c H locs ls hX hR hs hl hv
  subst hp
  exact lv_if_ne hX.1 hX.2.1 hd ht (fun hb => kt hb p l e s m args below meth c H locs ls hX hR hs hl hv) (fun hb => kf hb p l e s m args below meth c H locs ls hX hR hs hl hv)

theorem bw_if_lt {x : Int32} {off : Int} (tgt pc' : Nat) (hd : decode k.2.1 pc = .ok (.ifCond .lt off, 3)) (ht : (pc : Int) + off = (tgt : Int)) (hp : pc + 3 = pc') (kt : x < 0 → bw_W g R k Q cu su tgt lv st A) (kf : ¬ (x < 0) → bw_W g R k Q cu su pc' lv st A) : bw_W g R k Q cu su pc lv (.int x :: st) A := by
  intro p l e s m args below meth c H locs ls hX hR hs hl hv
  subst hp
  exact lv_if_lt hX.1 hX.2.1 hd ht (fun hb => kt hb p l e s m args below meth c H locs ls hX hR hs hl hv) (fun hb => kf hb p l e s m args below meth c H locs ls hX hR hs hl hv)

theorem bw_if_ge {x : Int32} {off : Int} (tgt pc' : Nat) (hd : decode k.2.1 pc = .ok (.ifCond .ge off, 3)) (ht : (pc : Int) + off = (tgt : Int)) (hp : pc + 3 = pc') (kt : 0 ≤ x → bw_W g R k Q cu su tgt lv st A) (kf : ¬ (0 ≤ x) → bw_W g R k Q cu su pc' lv st A) : bw_W g R k Q cu su pc lv (.int x :: st) A := by
  intro p l e s m args below meth c H locs ls hX hR hs hl hv
  subst hp
  exact lv_if_ge hX.1 hX.2.1 hd ht (fun hb => kt hb p l e s m args below meth c H locs ls hX hR hs hl hv) (fun hb => kf hb p l e s m args below meth c H locs ls hX hR hs hl hv)

theorem bw_if_gt {x : Int32} {off : Int} (tgt pc' : Nat) (hd : decode k.2.1 pc = .ok (.ifCond .gt off, 3)) (ht : (pc : Int) + off = (tgt : Int)) (hp : pc + 3 = pc') (kt : 0 < x → bw_W g R k Q cu su tgt lv st A) (kf : ¬ (0 < x) → bw_W g R k Q cu su pc' lv st A) : bw_W g R k Q cu su pc lv (.int x :: st) A := by
  intro p l e s m args below meth c H locs ls hX hR hs hl hv
  subst hp
  exact lv_if_gt hX.1 hX.2.1 hd ht (fun hb => kt hb p l e s m args below meth c H locs ls hX hR hs hl hv) (fun hb => kf hb p l e s m args below meth c H locs ls hX hR hs hl hv)

theorem bw_if_le {x : Int32} {off : Int} (tgt pc' : Nat) (hd : decode k.2.1 pc = .ok (.ifCond .le off, 3)) (ht : (pc : Int) + off = (tgt : Int)) (hp : pc + 3 = pc') (kt : x ≤ 0 → bw_W g R k Q cu su tgt lv st A) (kf : ¬ (x ≤ 0) → bw_W g R k Q cu su pc' lv st A) : bw_W g R k Q cu su pc lv (.int x :: st) A := by
  intro p l e s m args below meth c H locs ls hX hR hs hl hv
  subst hp
  exact lv_if_le hX.1 hX.2.1 hd ht (fun hb => kt hb p l e s m args below meth c H locs ls hX hR hs hl hv) (fun hb => kf hb p l e s m args below meth c H locs ls hX hR hs hl hv)

theorem bw_icmp_eq {x y : Int32} {off : Int} (tgt pc' : Nat) (hd : decode k.2.1 pc = .ok (.if_icmp .eq off, 3)) (ht : (pc : Int) + off = (tgt : Int)) (hp : pc + 3 = pc') (kt : x = y → bw_W g R k Q cu su tgt lv st A) (kf : ¬ (x = y) → bw_W g R k Q cu su pc' lv st A) : bw_W g R k Q cu su pc lv (.int y :: .int x :: st) A := by
  intro p l e s m args below meth c H locs ls hX hR hs hl hv
  subst hp
  exact lv_icmp_eq hX.1 hX.2.1 hd ht (fun hb => kt hb p l e s m args below meth c H locs ls hX hR hs hl hv) (fun hb => kf hb p l e s m args below meth c H locs ls hX hR hs hl hv)

theorem bw_icmp_ne {x y : Int32} {off : Int} (tgt pc' : Nat) (hd : decode k.2.1 pc = .ok (.if_icmp .ne off, 3)) (ht : (pc : Int) + off = (tgt : Int)) (hp : pc + 3 = pc') (kt : ¬ x = y → bw_W g R k Q cu su tgt lv st A) (kf : x = y → bw_W g R k Q cu su pc' lv st A) : bw_W g R k Q cu su pc lv (.int y :: .int x :: st) A := by
  intro p l e s m args below meth c H locs ls hX hR hs hl hv
  subst hp
  exact lv_icmp_ne hX.1 hX.2.1 hd ht (fun hb => kt hb p l e s m args below meth c H locs ls hX hR hs hl hv) (fun hb => kf hb p l e s m args below meth c H locs ls hX hR hs hl hv)

theorem bw_icmp_lt {x y : Int32} {off : Int} (tgt pc' : Nat) (hd : decode k.2.1 pc = .ok (.if_icmp .lt off, 3)) (ht : (pc : Int) + off = (tgt : Int)) (hp : pc + 3 = pc') (kt : x < y → bw_W g R k Q cu su tgt lv st A) (kf : ¬ (x < y) → bw_W g R k Q cu su pc' lv st A) : bw_W g R k Q cu su pc lv (.int y :: .int x :: st) A := by
  intro p l e s m args below meth c H locs ls hX hR hs hl hv
  subst hp
  exact lv_icmp_lt hX.1 hX.2.1 hd ht (fun hb => kt hb p l e s m args below meth c H locs ls hX hR hs hl hv) (fun hb => kf hb p l e s m args below meth c H locs ls hX hR hs hl hv)

theorem bw_icmp_ge {x y : Int32} {off : Int} (tgt pc' : Nat) (hd : decode k.2.1 pc = .ok (.if_icmp .ge off, 3)) (ht : (pc : Int) + off = (tgt : Int)) (hp : pc + 3 = pc') (kt : y ≤ x → bw_W g R k Q cu su tgt lv st A) (kf : ¬ (y ≤ x) → bw_W g R k Q cu su pc' lv st A) : bw_W g R k Q cu su pc lv (.int y :: .int x :: st) A := by
  intro p l e s m args below meth c H locs ls hX hR hs hl hv
  subst hp
  exact lv_icmp_ge hX.1 hX.2.1 hd ht (fun hb => kt hb p l e s m args below meth c H locs ls hX hR hs hl hv) (fun hb => kf hb p l e s m args below meth c H locs ls hX hR hs hl hv)

theorem bw_icmp_gt {x y : Int32} {off : Int} (tgt pc' : Nat) (hd : decode k.2.1 pc = .ok (.if_icmp .gt off, 3)) (ht : (pc : Int) + off = (tgt : Int)) (hp : pc + 3 = pc') (kt : y < x → bw_W g R k Q cu su tgt lv st A) (kf : ¬ (y < x) → bw_W g R k Q cu su pc' lv st A) : bw_W g R k Q cu su pc lv (.int y :: .int x :: st) A := by
  intro p l e s m args below meth c H locs ls hX hR hs hl hv
  subst hp
  exact lv_icmp_gt hX.1 hX.2.1 hd ht (fun hb => kt hb p l e s m args below meth c H locs ls hX hR hs hl hv) (fun hb => kf hb p l e s m args below meth c H locs ls hX hR hs hl hv)

theorem bw_icmp_le {x y : Int32} {off : Int} (tgt pc' : Nat) (hd : decode k.2.1 pc = .ok (.if_icmp .le off, 3)) (ht : (pc : Int) + off = (tgt : Int)) (hp : pc + 3 = pc') (kt : x ≤ y → bw_W g R k Q cu su tgt lv st A) (kf : ¬ (x ≤ y) → bw_W g R k Q cu su pc' lv st A) : bw_W g R k Q cu su pc lv (.int y :: .int x :: st) A := by
  intro p l e s m args below meth c H locs ls hX hR hs hl hv
  subst hp
  exact lv_icmp_le hX.1 hX.2.1 hd ht (fun hb => kt hb p l e s m args below meth c H locs ls hX hR hs hl hv) (fun hb => kf hb p l e s m args below meth c H locs ls hX hR hs hl hv)

theorem bw_goto {off : Int} (tgt : Nat) (hd : decode k.2.1 pc = .ok (.goto off, 3)) (ht : (pc : Int) + off = (tgt : Int)) (kk : bw_W g R k Q cu su tgt lv st A) : bw_W g R k Q cu su pc lv st A := by
  intro p l e s m args below meth c H locs ls hX hR hs hl hv
  exact lv_goto hX.1 hX.2.1 hd ht (kk p l e s m args below meth c H locs ls hX hR hs hl hv)

theorem bw_ifnonnull {x : Nat} {off : Int} (tgt : Nat) (hd : decode k.2.1 pc = .ok (.ifnonnull off, 3)) (ht : (pc : Int) + off = (tgt : Int)) (kk : bw_W g R k Q cu su tgt lv st A) : bw_W g R k Q cu su pc lv (.ref x :: st) A := by
  intro p l e s m args below meth c H locs ls hX hR hs hl hv
  exact lv_ifnonnull hX.1 hX.2.1 hd ht (kk p l e s m args below meth c H locs ls hX hR hs hl hv)

theorem bw_ifnonnullN {off : Int} (pc' : Nat) (hd : decode k.2.1 pc = .ok (.ifnonnull off, 3)) (hp : pc + 3 = pc') (kk : bw_W g R k Q cu su pc' lv st A) : bw_W g R k Q cu su pc lv (.null :: st) A := by
  intro p l e s m args below meth c H locs ls hX hR hs hl hv
  subst hp
  exact lv_ifnonnullN hX.1 hX.2.1 hd (kk p l e s m args below meth c H locs ls hX hR hs hl hv)

theorem bw_acmp_eq {x y : Nat} {off : Int} (tgt pc' : Nat) (hd : decode k.2.1 pc = .ok (.if_acmp .eq off, 3)) (ht : (pc : Int) + off = (tgt : Int)) (hp : pc + 3 = pc') (kt : x = y → bw_W g R k Q cu su tgt lv st A) (kf : ¬ x = y → bw_W g R k Q cu su pc' lv st A) : bw_W g R k Q cu su pc lv (.ref y :: .ref x :: st) A := by
  intro p l e s m args below meth c H locs ls hX hR hs hl hv
  subst hp
  exact lv_acmp_eq (rx := some x) (ry := some y) hX.1 hX.2.1 hd ht (fun hb => kt (Option.some.inj hb) p l e s m args below meth c H locs ls hX hR hs hl hv) (fun hb => kf (fun h => hb (by rw [h])) p l e s m args below meth c H locs ls hX hR hs hl hv)

theorem bw_tsOut {x : Int32} {dflt lo hi : Int} {offs : Array Int} {len : Nat} (tgt : Nat) (hd : decode k.2.1 pc = .ok (.tableswitch dflt lo hi offs, len)) (h : x.toInt < lo ∨ hi < x.toInt) (ht : (pc : Int) + dflt = (tgt : Int)) (kk : bw_W g R k Q cu su tgt lv st A) : bw_W g R k Q cu su pc lv (.int x :: st) A := by
  intro p l e s m args below meth c H locs ls hX hR hs hl hv
  exact lv_tableOut hX.1 hX.2.1 hd h ht (kk p l e s m args below meth c H locs ls hX hR hs hl hv)

theorem bw_tsIn {x : Int32} {dflt lo hi off : Int} {offs : Array Int} {len : Nat} (tgt : Nat) (hd : decode k.2.1 pc = .ok (.tableswitch dflt lo hi offs, len)) (h1 : ¬ x.toInt < lo) (h2 : ¬ hi < x.toInt) (ho : offs[(x.toInt - lo).toNat]? = some off) (ht : (pc : Int) + off = (tgt : Int)) (kk : bw_W g R k Q cu su tgt lv st A) : bw_W g R k Q cu su pc lv (.int x :: st) A := by
  intro p l e s m args below meth c H locs ls hX hR hs hl hv
  exact lv_tableIn hX.1 hX.2.1 hd h1 h2 ho ht (kk p l e s m args below meth c H locs ls hX hR hs hl hv)

theorem bw_loc (lv' : List (Nat × Value)) (h : bw_sub lv lv') (kk : bw_W g R k Q cu su pc lv' st A) : bw_W g R k Q cu su pc lv st A := by
  intro p l e s m args below meth c H locs ls hX hR hs hl hv
  exact kk p l e s m args below meth c H locs ls hX hR hs hl ⟨hv.1, hv.2.1, fun q hq => hv.2.2 q (h.mem q hq)⟩
theorem bw_wid {cu' su' : Nat} (h1 : cu ≤ cu') (h2 : su ≤ su') (kk : bw_W g R k Q cu' su' pc lv st A) : bw_W g R k Q cu su pc lv st A := by
  intro p l e s m args below meth c H locs ls hX hR hs hl hv
  exact W.widen h1 h2 (kk p l e s m args below meth c H locs ls hX hR hs hl hv)
/-! the heap -/
theorem bw_R.up {A : bw_H} {H H1 : Heap} {a : Nat} {e0 e : va_E} (hR : bw_R g A H) (ha : A.2 a = some e0) (z : H1.size = H.size) (o : ∀ q : Nat, q ≠ a → H1[q]? = H[q]?) (h : va_at g.1 vwCl (a, e) H1) : bw_R g (bw_up A a e) H1 := by
  obtain ⟨h1, h2, h3, h4⟩ := hR
  have hla := (h4 a e0 ha).1
  refine ⟨z.trans h1, h2, fun q hq => ?_, fun b e' hb => ?_⟩
  · rw [o q (fun e => by omega)]; exact h3 q hq
  · by_cases hba : b = a
    · subst hba
      have : (if b = b then some e else A.2 b) = some e' := hb
      rw [if_pos rfl] at this
      cases this
      exact ⟨hla, h⟩
    · have : (if b = a then some e else A.2 b) = some e' := hb
      rw [if_neg hba] at this
      exact ⟨(h4 b e' this).1, va_at.kept (h4 b e' this).2 (o b hba)⟩
theorem bw_R.nw {A : bw_H} {H H1 : Heap} {e : va_E} (hR : bw_R g A H) (z : H1.size = A.1 + 1) (o : ∀ q : Nat, q < A.1 → H1[q]? = H[q]?) (h : va_at g.1 vwCl (A.1, e) H1) : bw_R g (bw_nw A e) H1 := by
  obtain ⟨h1, h2, h3, h4⟩ := hR
  refine ⟨z, by show _ ≤ A.1 + 1; omega, fun q hq => ?_, fun b e' hb => ?_⟩
  · rw [o q (by omega)]; exact h3 q hq
  · by_cases hba : b = A.1
    · subst hba
      have : (if A.1 = A.1 then some e else A.2 A.1) = some e' := hb
      rw [if_pos rfl] at this
      cases this
      exact ⟨h2, h⟩
    · have : (if b = A.1 then some e else A.2 b) = some e' := hb
      rw [if_neg hba] at this
      have h5 := h4 b e' this
      have hlt : b < H.size := va_at.lt h5.2
      exact ⟨h5.1, va_at.kept h5.2 (o b (by omega))⟩
theorem bw_R.P {A : bw_H} {H : Heap} {a : Nat} {e : va_E} (hR : bw_R g A H) (ha : A.2 a = some e) : va_P g.1 vwCl [(a, e)] H := by
  intro i q hq
  have hz : i < 1 := (List.getElem?_eq_some_iff.mp hq).1
  rw [show i = 0 by omega] at hq
  cases hq
  exact (hR.2.2.2 a e ha).2
/-- a field link: own class, entry; class number and field number -/
def bw_fl (own : String) (idx ci kf : Nat) : Prop := ∃ (C : String) (T : u_T) (N : Nat), vwCl[ci]? = some (C, T, N) ∧ kf < N ∧ (∀ w ∈ u_ws C T N, w ∈ bw_uw) ∧ Cond.fieldLink own idx (T kf).1 (T kf).2.1 (T kf).2.2.1 ∈ bw_uw
def bw_fp (own : String) (idx ci kf : Nat) (ty : FieldType) (fin : Bool) : Prop := ∃ (C : String) (T : u_T) (N : Nat) (ty0 : Nat → FieldType), vwCl[ci]? = some (C, T, N) ∧ kf < N ∧ (∀ w ∈ u_ws C T N, w ∈ bw_uw) ∧ Cond.fieldLink own idx (T kf).1 (T kf).2.1 (T kf).2.2.1 ∈ bw_uw ∧
  (∀ k, k < N → parseFieldDescriptor (T k).2.2.1 = some (ty0 k)) ∧ (∀ a, a < N → ∀ b, b < N → a ≠ b → (T a).2.1 ≠ (T b).2.1) ∧ (T kf).2.2.2 = fin ∧ (fin = true → (T kf).1 = own) ∧ ty0 kf = ty
theorem bw_get {i ci kf : Nat} {a : Nat} {fs : List Value} {v : Value} (pc' : Nat) (hd : decode k.2.1 pc = .ok (.getfield i, 3)) (hp : pc + 3 = pc') (hf : bw_fl k.1.cls i ci kf) (ha : A.2 a = some (.inr (ci, fs))) (hv0 : fs[kf]? = some v)
    (kk : bw_W g R k Q cu su pc' lv (v :: st) A) : bw_W g R k Q cu su pc lv (.ref a :: st) A := by
  intro p l e s m args below meth c H locs ls hX hR hs hl hv
  subst hp
  obtain ⟨C, T, N, h1, h2, h3, h4⟩ := hf
  exact va_get hX.1 hX.2.1 hX.2.2.2.2.2.1 h3 hX.2.2.2.2.1 hX.2.2.2.2.2.2.2.2.2.2.1.1 (hR.P ha) 0 rfl h1 kf h2 (hX.2.2.2.2.2.1 _ h4) (fun _ h => h) hv0 hd (kk p l e s m args below meth c H locs ls hX hR hs hl hv)
theorem bw_put {i ci kf : Nat} {a : Nat} {fs : List Value} {v : Value} {ty : FieldType} (pc' : Nat) (hd : decode k.2.1 pc = .ok (.putfield i, 3)) (hp : pc + 3 = pc') (hf : bw_fp k.1.cls i ci kf ty false) (ha : A.2 a = some (.inr (ci, fs))) (hn0 : narrow ty v = v) (hfit : fits ty v = true) (hlen : kf < fs.length)
    (kk : bw_W g R k Q cu su pc' lv st (bw_up A a (.inr (ci, fs.set kf v)))) : bw_W g R k Q cu su pc lv (v :: .ref a :: st) A := by
  intro p l e s m args below meth c H locs ls hX hR hs hl hv
  subst hp
  obtain ⟨C, T, N, ty0, hc, hk, hin, hlk, hty, hnm, hfin, -, het⟩ := hf
  have hts := hX.2.2.2.2.2.1
  have hK := hX.2.2.2.2.2.2.2.2.2.2.1.1
  have hap := va_apart (own := k.1.cls) hts hin ty0 hty hnm hK hc
  have hd' : parseFieldDescriptor (T kf).2.2.1 = some ty := by rw [hty kf hk, het]
  obtain ⟨r, h1, cell, q1, q2, q3, q4⟩ := (hR.2.2.2 a _ ha).2
  have hr : r = (C, T, N) := Option.some.inj (h1.symm.trans hc)
  subst hr
  obtain ⟨hS, hfc, kC, hkC, hkind⟩ := hK.1 ci _ hc
  obtain ⟨cf, kf', fi, f, hi, hsl⟩ := hS kf hk
  have hlay := hts _ (hin _ (u_in_lay hk))
  unfold u_lay at hlay
  rw [if_neg (by rw [hfin]; decide)] at hlay
  have hst := (u_facts hfc hkC (u_lays hts hin hk) hi).1
  have h6 := u_store hfc hkC hkind hlay hi hd' hn0 hfit
  refine W.putK hX.1 hX.2.1 (f := f) ⟨hX.2.2.2.2.1, hts _ hlk, ⟨_, _, _, hi⟩, hst⟩ (by rw [q2]; exact h6) q1 q3 (by rw [hsl]; exact k2_hasslot (q4 kf hk)) rfl rfl hd fun H' e1 e2 e3 => ?_
  rw [hsl] at e1 ⊢
  refine kk p l e s m args below meth c H' _ ls hX (hR.up ha e2 e3 ⟨_, hc, t_OB.to (V := updV (vp_V fs) kf v) ⟨_, e1, q2, q3, t_set q4 hap hk v⟩ (fun j _ => vp_updV_set hlen v j)⟩) (by rw [e2]; exact hs) (fun z hz => ?_) hv
  rcases List.mem_append.mp hz with h | h
  · exact hl z h
  · rw [List.mem_singleton.mp h]; exact (hR.2.2.2 a _ ha).1
theorem bw_putF {i ci kf : Nat} {a : Nat} {fs : List Value} {v : Value} {ty : FieldType} (pc' : Nat) (hd : decode k.2.1 pc = .ok (.putfield i, 3)) (hp : pc + 3 = pc') (hf : bw_fp k.1.cls i ci kf ty true) (hi0 : k.1.name = "<init>") (ha : A.2 a = some (.inr (ci, fs))) (hn0 : narrow ty v = v) (hfit : fits ty v = true) (hlen : kf < fs.length)
    (kk : bw_W g R k Q cu su pc' lv st (bw_up A a (.inr (ci, fs.set kf v)))) : bw_W g R k Q cu su pc lv (v :: .ref a :: st) A := by
  intro p l e s m args below meth c H locs ls hX hR hs hl hv
  subst hp
  obtain ⟨C, T, N, ty0, hc, hk, hin, hlk, hty, hnm, hfin, hdecl, het⟩ := hf
  have hdecl := hdecl rfl
  have hts := hX.2.2.2.2.2.1
  have hown := hX.2.2.2.2.1
  have hK := hX.2.2.2.2.2.2.2.2.2.2.1.1
  have hap := va_apart (own := k.1.cls) hts hin ty0 hty hnm hK hc
  have hd' : parseFieldDescriptor (T kf).2.2.1 = some ty := by rw [hty kf hk, het]
  obtain ⟨r, h1, cell, q1, q2, q3, q4⟩ := (hR.2.2.2 a _ ha).2
  have hr : r = (C, T, N) := Option.some.inj (h1.symm.trans hc)
  subst hr
  obtain ⟨hS, hfc, kC, hkC, hkind⟩ := hK.1 ci _ hc
  obtain ⟨cf, kf', fi, f, hi, hsl⟩ := hS kf hk
  have hlay := hts _ (hin _ (u_in_lay hk))
  unfold u_lay at hlay
  rw [if_pos hfin] at hlay
  have hst := (u_facts hfc hkC (u_lays hts hin hk) hi).1
  have hcf : m.cls = cf := by
    obtain ⟨_, _, c', _, _, _, -, -, hf', -, -, -, hown2, -⟩ := Cond.laysFinal_spec hlay
    have e1 : c' = cf := by have := hi.symm.trans hf'; simp at this; exact this.1.symm
    rw [hdecl] at hown2
    rw [← e1]; exact Option.some.inj (hown.symm.trans hown2)
  have h6 := u_fits hfc hkC hkind (Or.inr hlay) hi hd' hn0 hfit
  refine W.putFinK hX.1 hX.2.1 hown (hts _ hlk) hi hst hcf (hX.2.2.2.2.2.2.2.1.trans hi0) (by rw [q2]; exact h6) q1 q3 (by rw [hsl]; exact k2_hasslot (q4 kf hk)) rfl rfl hd fun H' e1 e2 e3 => ?_
  rw [hsl] at e1 ⊢
  refine kk p l e s m args below meth c H' _ ls hX (hR.up ha e2 e3 ⟨_, hc, t_OB.to (V := updV (vp_V fs) kf v) ⟨_, e1, q2, q3, t_set q4 hap hk v⟩ (fun j _ => vp_updV_set hlen v j)⟩) (by rw [e2]; exact hs) (fun z hz => ?_) hv
  rcases List.mem_append.mp hz with h | h
  · exact hl z h
  · rw [List.mem_singleton.mp h]; exact (hR.2.2.2 a _ ha).1
/-! arrays: kinds 0 int, 1 long, 2 int[], 3 Matrix, 4 Polynomial -/
abbrev bw_ai (g : bw_G) (n : Nat) (f : Nat → Int32) : va_E := .inl (g.2.1 0, n, .inl f)
abbrev bw_al (g : bw_G) (n : Nat) (f : Nat → Int64) : va_E := .inl (g.2.1 1, n, .inr (.inl f))
abbrev bw_aq (g : bw_G) (t n : Nat) (f : Nat → Option Nat) : va_E := .inl (g.2.1 t, n, .inr (.inr (.inr (.inr f))))
theorem bw_iald {a n : Nat} {f : Nat → Int32} {j : Int32} (pc' : Nat) (hd : decode k.2.1 pc = .ok (.iaload, 1)) (hp : pc + 1 = pc') (ha : A.2 a = some (bw_ai g n f)) (hin : vp_in j n)
    (kk : bw_W g R k Q cu su pc' lv (.int (f j.toNatClampNeg) :: st) A) : bw_W g R k Q cu su pc lv (.int j :: .ref a :: st) A := by
  intro p l e s m args below meth c H locs ls hX hR hs hl hv
  subst hp
  exact va_iald hX.1 hX.2.1 hX.2.2.2.2.2.2.2.2.2.2.1.1 (hR.P ha) 0 0 rfl rfl hin hd (kk p l e s m args below meth c H locs ls hX hR hs hl hv)
theorem bw_lald {a n : Nat} {f : Nat → Int64} {j : Int32} (pc' : Nat) (hd : decode k.2.1 pc = .ok (.laload, 1)) (hp : pc + 1 = pc') (ha : A.2 a = some (bw_al g n f)) (hin : vp_in j n)
    (kk : bw_W g R k Q cu su pc' lv (.long (f j.toNatClampNeg) :: st) A) : bw_W g R k Q cu su pc lv (.int j :: .ref a :: st) A := by
  intro p l e s m args below meth c H locs ls hX hR hs hl hv
  subst hp
  exact va_lald hX.1 hX.2.1 hX.2.2.2.2.2.2.2.2.2.2.1.1 (hR.P ha) 0 1 rfl rfl hin hd (kk p l e s m args below meth c H locs ls hX hR hs hl hv)
theorem bw_alen {a : Nat} {cA : ClassId} {x : vp_A} {v : Int32} (t : Nat) {ty : FieldType} (pc' : Nat) (hd : decode k.2.1 pc = .ok (.arraylength, 1)) (hp : pc + 1 = pc') (ht : (bw_ty g.2.1)[t]? = some (cA, ty)) (ha : A.2 a = some (.inl (cA, x))) (hv0 : Int32.ofNat x.1 = v)
    (kk : bw_W g R k Q cu su pc' lv (.int v :: st) A) : bw_W g R k Q cu su pc lv (.ref a :: st) A := by
  intro p l e s m args below meth c H locs ls hX hR hs hl hv
  subst hp
  exact va_alen hX.1 hX.2.1 hX.2.2.2.2.2.2.2.2.2.2.1.1 (hR.P ha) 0 t rfl ht hv0 hd (kk p l e s m args below meth c H locs ls hX hR hs hl hv)
theorem bw_iast {a n : Nat} {f : Nat → Int32} {j x : Int32} (pc' : Nat) (hd : decode k.2.1 pc = .ok (.iastore, 1)) (hp : pc + 1 = pc') (ha : A.2 a = some (bw_ai g n f)) (hin : vp_in j n)
    (kk : bw_W g R k Q cu su pc' lv st (bw_up A a (bw_ai g n (upd f j.toNatClampNeg x)))) : bw_W g R k Q cu su pc lv (.int x :: .int j :: .ref a :: st) A := by
  intro p l e s m args below meth c H locs ls hX hR hs hl hv
  subst hp
  have hK := hX.2.2.2.2.2.2.2.2.2.2.1.1
  refine W.iast hX.1 hX.2.1 (hR.2.2.2 a _ ha).2 ((hK.2 0 _ rfl).1 n (fun j => .int (f j))) (fun q => by cases q) (by show ¬ (j < 0 ∨ (arrV _ _ _).slots.size ≤ _); rw [arrV_size]; exact hin) rfl rfl hd fun H1 e1 z oq => ?_
  refine kk p l e s m args below meth c H1 _ ls hX (hR.up ha z oq ?_) (by rw [z]; exact hs) (fun z hz => ?_) hv
  · show H1[a]? = some (vp_cell _ _)
    rw [e1]
    rw [vp_cell_i, vp_cell_i, arrV_store]
    congr 2
    funext q
    by_cases hq : q = j.toNatClampNeg
    · subst hq
      simp [updV, upd]
    · simp [updV, upd, hq]
  · rcases List.mem_append.mp hz with h | h
    · exact hl z h
    · rw [List.mem_singleton.mp h]; exact (hR.2.2.2 a _ ha).1
theorem bw_last {a n : Nat} {f : Nat → Int64} {j : Int32} {x : Int64} (pc' : Nat) (hd : decode k.2.1 pc = .ok (.lastore, 1)) (hp : pc + 1 = pc') (ha : A.2 a = some (bw_al g n f)) (hin : vp_in j n)
    (kk : bw_W g R k Q cu su pc' lv st (bw_up A a (bw_al g n (vp_updL f j.toNatClampNeg x)))) : bw_W g R k Q cu su pc lv (.long x :: .int j :: .ref a :: st) A := by
  intro p l e s m args below meth c H locs ls hX hR hs hl hv
  subst hp
  have hK := hX.2.2.2.2.2.2.2.2.2.2.1.1
  refine W.last hX.1 hX.2.1 (hR.2.2.2 a _ ha).2 ((hK.2 1 _ rfl).1 n (fun j => .long (f j))) (fun q => by cases q) (by show ¬ (j < 0 ∨ (arrV _ _ _).slots.size ≤ _); rw [arrV_size]; exact hin) rfl rfl hd fun H1 e1 z oq => ?_
  refine kk p l e s m args below meth c H1 _ ls hX (hR.up ha z oq ?_) (by rw [z]; exact hs) (fun z hz => ?_) hv
  · show H1[a]? = some (vp_cell _ _)
    rw [e1]
    rw [vp_cell_l, vp_cell_l, arrV_store]
    congr 2
    funext q
    by_cases hq : q = j.toNatClampNeg
    · subst hq
      simp [updV, vp_updL]
    · simp [updV, vp_updL, hq]
  · rcases List.mem_append.mp hz with h | h
    · exact hl z h
    · rw [List.mem_singleton.mp h]; exact (hR.2.2.2 a _ ha).1
theorem bw_aald {a n t y : Nat} {f : Nat → Option Nat} {j : Int32} {ty : FieldType} (pc' : Nat) (hd : decode k.2.1 pc = .ok (.aaload, 1)) (hp : pc + 1 = pc') (ht : (bw_ty g.2.1)[t]? = some (g.2.1 t, ty)) (hr : ty.isReference = true) (ha : A.2 a = some (bw_aq g t n f)) (hin : vp_in j n) (hy : f j.toNatClampNeg = some y)
    (kk : bw_W g R k Q cu su pc' lv (.ref y :: st) A) : bw_W g R k Q cu su pc lv (.int j :: .ref a :: st) A := by
  intro p l e s m args below meth c H locs ls hX hR hs hl hv
  subst hp
  have hK := hX.2.2.2.2.2.2.2.2.2.2.1.1
  have hlt : j.toNatClampNeg < n := Nat.not_le.mp fun q => hin (Or.inr q)
  exact W.aald (v := .ref y) (ty := ty) hX.1 hX.2.1 (hR.2.2.2 a _ ha).2 ((hK.2 t _ ht).1 n (fun j => va_rf (f j))) hr (fun q => by cases q) (by show ¬ (j < 0 ∨ (arrV _ _ _).slots.size ≤ _); rw [arrV_size]; exact hin) (by show (arrV _ _ _).slots[_]? = _; rw [arrV_read _ _ hlt, hy]; rfl) rfl rfl hd (kk p l e s m args below meth c H locs ls hX hR hs hl hv)
theorem bw_aast {a n t v ci : Nat} {r : vw_C} {vs : List Value} {f : Nat → Option Nat} {j : Int32} (pc' : Nat) (hd : decode k.2.1 pc = .ok (.aastore, 1)) (hp : pc + 1 = pc') (ht : (bw_ty g.2.1)[t]? = some (g.2.1 t, .object r.1)) (hc : vwCl[ci]? = some r) (ha : A.2 a = some (bw_aq g t n f)) (hv0 : A.2 v = some (.inr (ci, vs))) (hin : vp_in j n)
    (kk : bw_W g R k Q cu su pc' lv st (bw_up A a (bw_aq g t n (va_up f j.toNatClampNeg (some v))))) : bw_W g R k Q cu su pc lv (.ref v :: .int j :: .ref a :: st) A := by
  intro p l e s m args below meth c H locs ls hX hR hs hl hv
  subst hp
  have hK := hX.2.2.2.2.2.2.2.2.2.2.1.1
  have hlt : j.toNatClampNeg < n := Nat.not_le.mp fun q => hin (Or.inr q)
  have h0 : ¬ j < 0 := fun q => hin (Or.inl q)
  obtain ⟨r', hr', cellV, g1, g2, g3, -⟩ := (hR.2.2.2 v _ hv0).2
  have hcls := (hK.1 ci r hc).2
  obtain ⟨kA, comp, k1, k2, k3, -⟩ := (hK.2 t _ ht).2
  have hcomp : comp = g.1.1 ci := Option.some.inj (k3.symm.trans hcls.1)
  subst hcomp
  obtain ⟨kC, hkC, -⟩ := hcls.2
  refine W.aast hX.1 hX.2.1 (hR.2.2.2 a _ ha).2 (fun q h => by cases h) (fun h => by cases h) k1 k2 rfl hkC ⟨h0, by show _ < (arrV _ _ _).slots.size; rw [arrV_size]; exact hlt⟩ g1 (fun q h => by rw [g3] at h; cases h) (by rw [g2]; exact hkC) (by rw [g2]; exact va_assign hcls) rfl rfl hd fun H1 e1 z oq => ?_
  refine kk p l e s m args below meth c H1 _ ls hX (hR.up ha z oq ?_) (by rw [z]; exact hs) (fun z hz => ?_) hv
  · show H1[a]? = some (vp_cell _ _)
    rw [e1]
    rw [vp_cell_q, vp_cell_q, arrV_store]
    congr 2
    funext q
    by_cases hq : q = j.toNatClampNeg
    · subst hq
      simp [updV, va_up, va_rf]
    · simp [updV, va_up, hq]
  · rcases List.mem_append.mp hz with h | h
    · exact hl z h
    · rw [List.mem_singleton.mp h]; exact (hR.2.2.2 a _ ha).1
/-! making -/
def bw_nl (own : String) (idx ci N : Nat) (fs : List Value) : Prop := ∃ (C : String) (T : u_T) (ty : Nat → FieldType), vwCl[ci]? = some (C, T, N) ∧ (∀ w ∈ u_ws C T N, w ∈ bw_uw) ∧ (∀ k, k < N → parseFieldDescriptor (T k).2.2.1 = some (ty k)) ∧
  Cond.classLink own idx C ∈ bw_uw ∧ Cond.instantiable C N ∈ bw_uw ∧ Cond.initialized C ∈ bw_uw ∧ ∀ j, j < N → defaultValue (ty j) = vp_V fs j
theorem bw_new {i ci N : Nat} {fs : List Value} (pc' : Nat) (hd : decode k.2.1 pc = .ok (.new i, 3)) (hp : pc + 3 = pc') (hn : bw_nl k.1.cls i ci N fs) (hc : cu + 1 ≤ R.cells) (hsl : su + N ≤ R.slots)
    (kk : bw_W g R k Q (cu + 1) (su + N) pc' lv (.ref A.1 :: st) (bw_nw A (.inr (ci, fs)))) : bw_W g R k Q cu su pc lv st A := by
  intro p l e s m args below meth c H locs ls hX hR hs hl hv
  subst hp
  obtain ⟨C, T, ty, h1, h2, h3, h4, h5, h6, h7⟩ := hn
  have hts := hX.2.2.2.2.2.1
  have hK := hX.2.2.2.2.2.2.2.2.2.2.1.1
  have hKn := hK.1 ci _ h1
  refine W.newcK hX.1 hX.2.1 hX.2.2.2.2.1 (hts _ h4) (hts _ h5) (hts _ h6) rfl hd hc hsl hKn.2.1 hR.1 fun H1 kC hkC e1 z1 o1 => ?_
  refine kk p l e s m args below meth c H1 locs ls hX (hR.nw z1 o1 ⟨_, h1, (u_born ty hts h2 hKn hkC e1 h3).to h7⟩) ?_ hl hv
  have := hR.1
  omega
theorem bw_arrK {t : Nat} {ty : FieldType} {cA : ClassId} {s : State} (hK : va_K g.1 vwCl (bw_ty g.2.1) s) (ht : (bw_ty g.2.1)[t]? = some (g.2.1 t, ty)) (hn : s.vm.findClass ("[" ++ ty.toString) = some cA) : cA = g.2.1 t := by
  have h := (hK.2 t _ ht).2
  cases ty with
  | object C =>
    obtain ⟨kA, comp, h1, h2, h3, h4⟩ := h
    exact Option.some.inj (hn.symm.trans h4)
  | _ => exact Option.some.inj (hn.symm.trans h)
theorem bw_newi {n : Int32} {N : Nat} (pc' : Nat) (hd : decode k.2.1 pc = .ok (.newarray .int, 2)) (hp : pc + 2 = pc') (hw : Cond.arrayClass .int ∈ bw_uw) (hn : ¬ n < 0) (hN : n.toNatClampNeg = N) (hb : N ≤ 134217728) (hc : cu + 1 ≤ R.cells) (hsl : su + N ≤ R.slots)
    (kk : bw_W g R k Q (cu + 1) (su + N) pc' lv (.ref A.1 :: st) (bw_nw A (bw_ai g N (fun _ => 0)))) : bw_W g R k Q cu su pc lv (.int n :: st) A := by
  intro p l e s m args below meth c H locs ls hX hR hs hl hv
  subst hp
  have hts := hX.2.2.2.2.2.1
  have hK := hX.2.2.2.2.2.2.2.2.2.2.1.1
  refine va_newaK (atype := .int) hX.1 hX.2.1 (hts _ hw) rfl hd rfl hn hN (by show N * 4 ≤ 536870912; omega) hc hsl hR.1 fun H1 cA e1 z1 o1 hAr hNm => ?_
  have hcA : cA = g.2.1 0 := bw_arrK (t := 0) (ty := .int) hK rfl hNm
  subst hcA
  refine kk p l e s m args below meth c H1 locs ls hX (hR.nw z1 o1 ?_) ?_ hl hv
  · exact e1
  · have := hR.1
    omega
theorem bw_newl {n : Int32} {N : Nat} (pc' : Nat) (hd : decode k.2.1 pc = .ok (.newarray .long, 2)) (hp : pc + 2 = pc') (hw : Cond.arrayClass .long ∈ bw_uw) (hn : ¬ n < 0) (hN : n.toNatClampNeg = N) (hb : N ≤ 67108864) (hc : cu + 1 ≤ R.cells) (hsl : su + N ≤ R.slots)
    (kk : bw_W g R k Q (cu + 1) (su + N) pc' lv (.ref A.1 :: st) (bw_nw A (bw_al g N (fun _ => 0)))) : bw_W g R k Q cu su pc lv (.int n :: st) A := by
  intro p l e s m args below meth c H locs ls hX hR hs hl hv
  subst hp
  have hts := hX.2.2.2.2.2.1
  have hK := hX.2.2.2.2.2.2.2.2.2.2.1.1
  refine va_newaK (atype := .long) hX.1 hX.2.1 (hts _ hw) rfl hd rfl hn hN (by show N * 8 ≤ 536870912; omega) hc hsl hR.1 fun H1 cA e1 z1 o1 hAr hNm => ?_
  have hcA : cA = g.2.1 1 := bw_arrK (t := 1) (ty := .long) hK rfl hNm
  subst hcA
  refine kk p l e s m args below meth c H1 locs ls hX (hR.nw z1 o1 ?_) ?_ hl hv
  · exact e1
  · have := hR.1
    omega
theorem bw_newq {n : Int32} {N i t : Nat} {C : String} (pc' : Nat) (hd : decode k.2.1 pc = .ok (.anewarray i, 3)) (hp : pc + 3 = pc') (ht : (bw_ty g.2.1)[t]? = some (g.2.1 t, .object C)) (hw : C = "ByteFields$Matrix" ∨ C = "ByteFields$Polynomial") (hlk : Cond.classLink k.1.cls i C ∈ bw_uw) (hn : ¬ n < 0) (hN : n.toNatClampNeg = N) (hb : N ≤ 134217728) (hc : cu + 1 ≤ R.cells) (hsl : su + N ≤ R.slots)
    (kk : bw_W g R k Q (cu + 1) (su + N) pc' lv (.ref A.1 :: st) (bw_nw A (bw_aq g t N (fun _ => none)))) : bw_W g R k Q cu su pc lv (.int n :: st) A := by
  intro p l e s m args below meth c H locs ls hX hR hs hl hv
  subst hp
  subst hN
  have hts := hX.2.2.2.2.2.1
  have hK := hX.2.2.2.2.2.2.2.2.2.2.1.1
  have hgl := hX.2.2.2.2.2.2.2.2.2.2.1.2.2.2.2
  have hAO : va_AO C s := by rcases hw with rfl | rfl; exact hgl.2.2.1; exact hgl.2.2.2.1
  refine W.anew hX.1 hX.2.1 hX.2.2.2.2.1 (hts _ hlk) (va_AO.use hAO) rfl hd rfl hn (by omega) hc hsl fun cA kA comp f1 f2 f3 f4 => ?_
  have hcA : cA = g.2.1 t := bw_arrK hK ht f1
  subst hcA
  have hsz := hR.1
  generalize hH1 : H.push ({ cls := g.2.1 t, slots := Array.replicate n.toNatClampNeg .null, vm := .none } : Cell) = H1
  have z1 : H1.size = A.1 + 1 := by rw [← hH1, Array.size_push, hsz]
  have e1 : H1[A.1]? = some (arrV (g.2.1 t) n.toNatClampNeg (fun _ => .null)) := by rw [← hH1, ← hsz, Array.getElem?_push_size, ← arrV_new]
  have o1 : ∀ q : Nat, q < A.1 → H1[q]? = H[q]? := fun q hq => by rw [← hH1, Array.getElem?_push, if_neg (by omega)]
  rw [hsz]
  exact kk p l e s m args below meth c H1 locs ls hX (hR.nw z1 o1 e1) (by omega) hl hv
/-- new int[N][M]: the outer array, then its rows -/
def bw_mna (g : bw_G) (N M : Nat) (A : bw_H) : bw_H := (A.1 + 1 + N, fun b => if b = A.1 then some (bw_aq g 2 N (fun i => if i < N then some (A.1 + 1 + i) else none)) else if A.1 < b ∧ b < A.1 + 1 + N then some (bw_ai g M (fun _ => 0)) else A.2 b)
theorem bw_multi {n q : Int32} {N M i : Nat} (pc' : Nat) (hd : decode k.2.1 pc = .ok (.multianewarray i 2, 4)) (hp : pc + 4 = pc') (hw2 : Cond.arrayClass .int ∈ bw_uw) (hlk : Cond.classLink k.1.cls i "[[I" ∈ bw_uw) (hn : ¬ n < 0) (hq : ¬ q < 0) (hN : n.toNatClampNeg = N) (hM : q.toNatClampNeg = M) (hb : N ≤ 134217728) (hb2 : M ≤ 134217728) (hc : cu + (1 + N) ≤ R.cells) (hsl : su + (N + N * M) ≤ R.slots)
    (kk : bw_W g R k Q (cu + 1 + N) (su + N + N * M) pc' lv (.ref A.1 :: st) (bw_mna g N M A)) : bw_W g R k Q cu su pc lv (.int q :: .int n :: st) A := by
  intro p l e s m args below meth c H locs ls hX hR hs hl hv
  subst hp
  subst hN
  subst hM
  have hts := hX.2.2.2.2.2.1
  have hK := hX.2.2.2.2.2.2.2.2.2.2.1.1
  intro T hT X
  obtain ⟨vm₁, cA, comp, -, fA, fC, hO, -, X', step⟩ := X.multianewarray2F (ty := .int) hX.1 hX.2.2.2.2.1 (hts _ hlk) hX.2.2.2.2.2.2.2.2.2.2.1.2.2.2.2.2.2.2.2.1 (hts _ hw2) (g := F0 m pc ls (.int q :: .int n :: st)) rfl (by rw [hX.2.1]; exact hd) rfl hn hq (by omega) (by show _ * 4 ≤ _; omega) (by omega) rfl rfl hc hsl
  have hcA : cA = g.2.1 2 := bw_arrK (t := 2) (ty := .array .int) hK rfl fA
  have hcC : comp = g.2.1 0 := bw_arrK (t := 0) (ty := .int) hK rfl fC
  subst hcA
  subst hcC
  generalize hF : Jvm.Free.Multi.fill (T.setVm vm₁) (g.2.1 2) (g.2.1 0) n.toNatClampNeg q.toNatClampNeg (defaultValue .int) n.toNatClampNeg = F at X' step
  have hTh : (T.setVm vm₁).heap = H := hT
  have hsz := hR.1
  obtain ⟨f1, f2, -, -⟩ := Jvm.Free.Multi.fill_facts (T.setVm vm₁) (g.2.1 2) (g.2.1 0) n.toNatClampNeg q.toNatClampNeg (defaultValue .int) n.toNatClampNeg
  rw [hF, hTh] at f1 f2
  have hold : ∀ x : Nat, x < H.size → F.heap[x]? = H[x]? := fun x hx => by
    have := Jvm.Free.Multi.fill_old (T.setVm vm₁) (g.2.1 2) (g.2.1 0) n.toNatClampNeg q.toNatClampNeg (defaultValue .int) (a := x) (by rw [hTh]; exact hx) n.toNatClampNeg
    rw [hF, hTh] at this
    exact this
  have hrow : ∀ j : Nat, j < n.toNatClampNeg → F.heap[H.size + 1 + j]? = some (vp_cell (g.2.1 0) (q.toNatClampNeg, .inl (fun _ => 0))) := fun j hj => by
    have := Jvm.Free.Multi.fill_inner (T.setVm vm₁) (g.2.1 2) (g.2.1 0) n.toNatClampNeg q.toNatClampNeg (defaultValue .int) n.toNatClampNeg j hj
    rw [hF, hTh] at this
    rw [this, vp_cell_i, ← arrV_new]
    rfl
  rw [vr_outer] at f2
  have hR' : bw_R g (bw_mna g n.toNatClampNeg q.toNatClampNeg A) F.heap := by
    obtain ⟨h1, h2, h3, h4⟩ := hR
    refine ⟨by show _ = A.1 + 1 + _; omega, by show _ ≤ A.1 + 1 + _; omega, fun x hx => by rw [hold x (by omega)]; exact h3 x hx, fun b e' hb => ?_⟩
    have hb : (if b = A.1 then some (bw_aq g 2 n.toNatClampNeg (fun i => if i < n.toNatClampNeg then some (A.1 + 1 + i) else none)) else if A.1 < b ∧ b < A.1 + 1 + n.toNatClampNeg then some (bw_ai g q.toNatClampNeg (fun _ => 0)) else A.2 b) = some e' := hb
    by_cases hb1 : b = A.1
    · rw [if_pos hb1] at hb
      cases hb
      subst hb1
      refine ⟨h2, ?_⟩
      rw [← h1]
      exact f2
    · rw [if_neg hb1] at hb
      by_cases hb2 : A.1 < b ∧ b < A.1 + 1 + n.toNatClampNeg
      · rw [if_pos hb2] at hb
        cases hb
        refine ⟨by omega, ?_⟩
        have := hrow (b - A.1 - 1) (by omega)
        rw [show H.size + 1 + (b - A.1 - 1) = b by omega] at this
        exact this
      · rw [if_neg hb2] at hb
        have h5 := h4 b e' hb
        have hlt : b < H.size := va_at.lt h5.2
        exact ⟨h5.1, va_at.kept h5.2 (hold b hlt)⟩
  have hTs : T.heap.size = A.1 := by rw [hT]; exact hsz
  rw [hTs] at step
  obtain ⟨t2, a1, b1⟩ := kk p l e s m args below meth c F.heap locs ls hX hR' (by have := hR'.1; have : F.heap.size = A.1 + 1 + n.toNatClampNeg := this; omega) hl hv F rfl X'
  exact ⟨t2, step t2 a1, b1⟩
/-! the tables of PRIMES -/
theorem bw_Sx {p : Program} {l : Launch} {s : State} {m : MethodId} {args : Array Value} {meth : Method} {c : Code} {H : Heap} {locs : List Loc} (hX : bw_X g k p l s m args meth c) (hR : bw_R g A H) (hs : s.heap.size ≤ H.size) (hl : ∀ z ∈ locs, bw_lo g ≤ z.base) : va_S (bw_fr g) s.heap H locs :=
  ⟨hs, fun q _ h => by
    have hq : q < bw_lo g := Nat.not_le.mp h
    rw [hR.2.2.1 q hq, hX.2.2.2.2.2.2.2.2.2.2.2.2 q hq], hl⟩
theorem bw_primes {i : Nat} (pc' : Nat) (hd : decode k.2.1 pc = .ok (.getstatic i, 3)) (hp : pc + 3 = pc') (hlk : Cond.fieldLink k.1.cls i "ByteFields$Field" "PRIMES" "[I" ∈ bw_uw)
    (kk : bw_W g R k Q cu su pc' lv (.ref g.2.2.2.1 :: st) A) : bw_W g R k Q cu su pc lv st A := by
  intro p l e s m args below meth c H locs ls hX hR hs hl hv
  subst hp
  have hZ := va_Z.kept hX.2.2.2.2.2.2.2.2.2.2.1.2.1.1 (H1 := s.heap) (fun a h1 h2 => hX.2.2.2.2.2.2.2.2.2.2.2.2 a h1)
  exact va_gets hX.1 hX.2.1 hZ (bw_Sx hX hR hs hl) hX.2.2.2.2.1 (hX.2.2.2.2.2.1 _ hlk) (fun _ h => h) hd (kk p l e s m args below meth c H locs ls hX hR hs hl hv)
theorem bw_primeLen (pc' : Nat) (hd : decode k.2.1 pc = .ok (.arraylength, 1)) (hp : pc + 1 = pc')
    (kk : bw_W g R k Q cu su pc' lv (.int 4 :: st) A) : bw_W g R k Q cu su pc lv (.ref g.2.2.2.1 :: st) A := by
  intro p l e s m args below meth c H locs ls hX hR hs hl hv
  subst hp
  have hT := va_T.kept hX.2.2.2.2.2.2.2.2.2.2.1.2.1.2 (H1 := s.heap) (fun a h1 h2 => hX.2.2.2.2.2.2.2.2.2.2.2.2 a h1)
  exact va_tlen hX.1 hX.2.1 hT (bw_Sx hX hR hs hl) rfl hd (kk p l e s m args below meth c H locs ls hX hR hs hl hv)
theorem bw_primeAt {j : Int32} (pc' : Nat) (hd : decode k.2.1 pc = .ok (.iaload, 1)) (hp : pc + 1 = pc') (hin : vp_in j 4)
    (kk : bw_W g R k Q cu su pc' lv (.int (bw_pr j.toNatClampNeg) :: st) A) : bw_W g R k Q cu su pc lv (.int j :: .ref g.2.2.2.1 :: st) A := by
  intro p l e s m args below meth c H locs ls hX hR hs hl hv
  subst hp
  have hT := va_T.kept hX.2.2.2.2.2.2.2.2.2.2.1.2.1.2 (H1 := s.heap) (fun a h1 h2 => hX.2.2.2.2.2.2.2.2.2.2.2.2 a h1)
  exact va_ti hX.1 hX.2.1 hT (bw_Sx hX hR hs hl) hin rfl hd (kk p l e s m args below meth c H locs ls hX hR hs hl hv)
/-! ends -/
theorem bw_iret {v : Int32} (hd : decode k.2.1 pc = .ok (.ireturn, 1)) (hr : k.2.2.2.1 = some .int) (hc : cu ≤ R.cells) (hsl : su ≤ R.slots) (hq : Q (.inl (some (.int v))) A) : bw_W g R k Q cu su pc lv [.int v] A := by
  intro p l e s m args below meth c H locs ls hX hR hs hl hv
  have hlocks : meth.locks = false := hX.2.2.2.2.2.2.1
  exact W.widen hc hsl (vx_ret (W.iret hX.1 hX.2.1 (hX.2.2.2.1.trans hr) (fun t ht _ => ⟨_, A, rfl, by rw [ht]; exact hR, hq⟩) hl hd hlocks))
theorem bw_zret {v : Int32} (hd : decode k.2.1 pc = .ok (.ireturn, 1)) (hr : k.2.2.2.1 = some .boolean) (h01 : v = 0 ∨ v = 1) (hc : cu ≤ R.cells) (hsl : su ≤ R.slots) (hq : Q (.inl (some (.int v))) A) : bw_W g R k Q cu su pc lv [.int v] A := by
  intro p l e s m args below meth c H locs ls hX hR hs hl hv
  have hlocks : meth.locks = false := hX.2.2.2.2.2.2.1
  exact W.widen hc hsl (vx_ret (W.zret hX.1 hX.2.1 (hX.2.2.2.1.trans hr) (by rcases h01 with rfl | rfl <;> rfl) (fun t ht _ => ⟨_, A, rfl, by rw [ht]; exact hR, hq⟩) hl hd hlocks))
theorem bw_vret (hd : decode k.2.1 pc = .ok (.return_, 1)) (hr : k.2.2.2.1 = none) (hc : cu ≤ R.cells) (hsl : su ≤ R.slots) (hq : Q (.inl none) A) : bw_W g R k Q cu su pc lv [] A := by
  intro p l e s m args below meth c H locs ls hX hR hs hl hv
  have hlocks : meth.locks = false := hX.2.2.2.2.2.2.1
  exact W.widen hc hsl (vx_ret (W.vret hX.1 hX.2.1 (hX.2.2.2.1.trans hr) (fun t ht _ => ⟨_, A, rfl, by rw [ht]; exact hR, hq⟩) hl hd hlocks))
theorem bw_aret {a : Nat} {C : String} (hd : decode k.2.1 pc = .ok (.areturn, 1)) (hr : k.2.2.2.1 = some (.object C)) (hc : cu ≤ R.cells) (hsl : su ≤ R.slots) (hq : Q (.inl (some (.ref a))) A) : bw_W g R k Q cu su pc lv [.ref a] A := by
  intro p l e s m args below meth c H locs ls hX hR hs hl hv
  have hlocks : meth.locks = false := hX.2.2.2.2.2.2.1
  exact W.widen hc hsl (vx_ret (W.aret hX.1 hX.2.1 (hX.2.2.2.1.trans hr) (Or.inl ⟨C, rfl⟩) (Or.inr ⟨a, rfl⟩) (fun t ht _ => ⟨_, A, rfl, by rw [ht]; exact hR, hq⟩) hl hd hlocks))
/-- an exception of class E is on its way at pc -/
def bw_T (g : bw_G) (R : Room) (k : bw_M) (Q : bw_O → bw_H → Prop) (cu su pc : Nat) (lv : List (Nat × Value)) (A : bw_H) (E : String) : Prop :=
  ∀ (p : Program) (l : Launch) (e : Env) (s : State) (m : MethodId) (args : Array Value) (below : List Frame) (meth : Method) (c : Code) (H : Heap) (locs : List Loc) (ls : Array Slot) (q : Addr) (ce : Cell) (rest : List Value),
    bw_X g k p l s m args meth c → bw_R g A H → s.heap.size ≤ H.size → (∀ z ∈ locs, bw_lo g ≤ z.base) → lv_has ls k.2.2.1 lv → H[q]? = some ce → ce.vm = .none → s.vm.findClass E = some ce.cls →
    vx_W p l e R s m args below meth c H locs cu su (vx_MQ below (bw_q g Q) (bw_x g Q) args s R.cells R.slots (bw_fr g)) (F0 m pc ls rest) q
theorem bw_Tout {E : String} (ht : k.2.2.2.2 = []) (hc : cu ≤ R.cells) (hsl : su ≤ R.slots) (hq : Q (.inr E) A) : bw_T g R k Q cu su pc lv A E := by
  intro p l e s m args below meth c H locs ls q ce rest hX hR hs hl hv h1 h2 h3
  refine vx_out (fun x hx => ?_) hX.2.2.2.2.2.2.1 h1 h2 h3 (fun t ht _ => ⟨A, by rw [ht]; exact hR, hq⟩) hl hc hsl
  rw [hX.2.2.2.2.2.2.2.2.1, ht] at hx
  cases hx
theorem bw_Tcatch {E name : String} (pre : List ExceptionTableEntry) (x : ExceptionTableEntry) (suf : List ExceptionTableEntry) (hsplit : tableOf k.2.2.2.2 = pre ++ x :: suf)
    (hpass : ∀ z ∈ pre, covers z pc = false ∨ (z.catchType ≠ 0 ∧ ∃ nm : String, Cond.classLink k.1.cls z.catchType nm ∈ bw_uw ∧ (E, nm) ∈ bw_nc)) (hx : covers x pc = true) (h0 : x.catchType ≠ 0)
    (hlink : Cond.classLink k.1.cls x.catchType name ∈ bw_uw) (hcast : Cond.castable E name ∈ bw_fw)
    (kk : ∀ q : Nat, bw_W g R k Q cu su x.handlerPc lv [.ref q] A) : bw_T g R k Q cu su pc lv A E := by
  intro p l e s m args below meth c H locs ls q ce rest hX hR hs hl hv h1 h2 h3
  have hts := hX.2.2.2.2.2.1
  have hgl := hX.2.2.2.2.2.2.2.2.2.2.1
  refine vx_catch hX.2.2.2.2.1 pre x suf (hX.2.2.2.2.2.2.2.2.1.trans hsplit) (fun z hz => ?_) hx h0 (hts _ hlink) (bw_fw.use hcast (hgl.2.2.2.2.1 _ hcast)) h1 h2 h3 (kk q p l e s m args below meth c H locs ls hX hR hs hl hv)
  rcases hpass z hz with h | ⟨h, nm, h4, h5⟩
  · exact Or.inl h
  · exact Or.inr ⟨h, nm, hts _ h4, hgl.2.2.2.2.2.1 _ h5⟩
/-! calls -/
theorem bw_blind {av : List Value} : FrameBlind (va_Pc av (fun U => bw_gl g U ∧ bw_R g A U.heap)) := fun a U f mk h => ⟨h.1, bw_gl.same (s := U) rfl h.2.1, h.2.2⟩
theorem bw_pay {s : State} {args : Array Value} {w0 : Cond} (hts : ∀ w ∈ bw_uw, w.before args s = true) (h0 : w0 ∈ bw_uw) : ∀ w ∈ w0 :: bw_uw, ∀ (a' : Array Value) (U : State), s.WarmedH U.vm → w.before a' U = true := by
  intro w hw a' U hW
  have h : w ∈ bw_uw := by
    rcases List.mem_cons.mp hw with e | h
    · rw [e]; exact h0
    · exact h
  exact word_at hW (good_of_word (bw_uwg h)) (hts w h)
/-- the words of a call -/
def bw_cb (own : String) (idx : Nat) (k' : bw_M) (n : Nat) : Prop := Cond.methodLink own idx k'.1 ∈ bw_uw ∧ Cond.initialized k'.1.cls ∈ bw_uw ∧ Cond.code k'.1 k'.2.1 k'.2.2.1 k'.2.2.2.1 ∈ bw_uw ∧
  (k'.1.cls ≠ "java/lang/invoke/MethodHandle" ∧ k'.1.cls ≠ "java/lang/invoke/VarHandle") ∧ (parseMethodDescriptor k'.1.desc).map (fun d => d.parameters.length) = some n
def bw_cv (own : String) (idx : Nat) (k' : bw_M) (n ci : Nat) : Prop := bw_cb own idx k' n ∧ Cond.instanceMethod k'.1 ∈ bw_uw ∧ Cond.selects k'.1.cls k'.1 k'.1 ∈ bw_uw ∧ ∃ q : vw_C, vwCl[ci]? = some q ∧ q.1 = k'.1.cls
def bw_cs (own : String) (idx : Nat) (k' : bw_M) (n : Nat) : Prop := bw_cb own idx k' n ∧ Cond.static k'.1 ∈ bw_uw
def bw_ci (own : String) (idx : Nat) (k' : bw_M) (n : Nat) : Prop := bw_cb own idx k' n ∧ Cond.instanceMethod k'.1 ∈ bw_uw ∧ k'.1.name = "<init>" ∧ k'.2.2.2.1 = none
theorem bw_cB {own : String} {idx n : Nat} {k' : bw_M} {R' : Room} {s : State} {args : Array Value} (h : bw_cb own idx k' n) (hts : ∀ w ∈ bw_uw, w.before args s = true) (hR : R'.frames + 1 ≤ R.frames ∧ 8 + (k'.2.2.1 + 11) + R'.locals ≤ R.locals) :
    CallB R s args own idx k'.1 k'.2.1 k'.2.2.1 k'.2.2.2.1 (.code k'.1 k'.2.1 k'.2.2.1 k'.2.2.2.1 :: bw_uw) R' R'.cells R'.slots n := by
  obtain ⟨h1, h2, h3, h4, h5⟩ := h
  refine ⟨rfl, rfl, hR.1, hR.2, bw_pay hts h3, List.mem_cons_self, hts _ h3, hts _ h2, h4, fun sig hsig => ?_, hts _ h1⟩
  rw [hsig] at h5
  exact (Option.some.inj h5).symm
theorem bw_callV {i n ci b : Nat} {k' : bw_M} {R' : Room} {As : List Value} {fs : List Value} {st0 : List Value} {Q' : bw_O → bw_H → Prop} (pc' : Nat) (hd : decode k.2.1 pc = .ok (.invokevirtual i, 3)) (hp : pc + 3 = pc') (hw : bw_cv k.1.cls i k' n ci) (hM : bw_C g R' k' (.ref b :: As) A Q')
    (hb : A.2 b = some (.inr (ci, fs))) (hn : As.length = n) (hst : st0 = As.reverse ++ .ref b :: st) (hcat : (st.map fun v => v.category).sum ≤ 8) (hR : R'.frames + 1 ≤ R.frames ∧ 8 + (k'.2.2.1 + 11) + R'.locals ≤ R.locals) (hc : cu + R'.cells ≤ R.cells) (hsl : su + R'.slots ≤ R.slots)
    (kx : ∀ (E : String) (A' : bw_H), Q' (.inr E) A' → bw_T g R k Q (cu + R'.cells) (su + R'.slots) pc lv A' E)
    (kk : ∀ (v : Option Value) (A' : bw_H), Q' (.inl v) A' → bw_W g R k Q (cu + R'.cells) (su + R'.slots) pc' lv (v.toList ++ st) A') : bw_W g R k Q cu su pc lv st0 A := by
  intro p l e s m args below meth c H locs ls hX hRl hs hl hv
  subst hp
  subst hst
  obtain ⟨hw1, hw2, hw3, ⟨C9, T9, N9⟩, hq1, hq2⟩ := hw
  have hts := hX.2.2.2.2.2.1
  have hgl := hX.2.2.2.2.2.2.2.2.2.2.1
  have hK := hgl.1
  have hrun := vx_runV (own := k.1.cls) (Ts := bw_uw) (C := k'.1.cls) (b := b) (As := As) (rest := st) (g := F0 m pc ls (As.reverse ++ .ref b :: st)) (H := H) (e := e) (below := below) (locs := locs) (cells := cu) (slots := su) (R := R) (meth := meth) ⟨hX.1, hX.2.1, hX.2.2.1, hX.2.2.2.2.1, hts⟩ (hM l hX.2.2.2.2.2.2.2.2.2.1) ⟨bw_cB hw1 hts hR, hts _ hw2, hts _ hw3⟩
    ⟨bw_blind, by
      obtain ⟨cell, c1, c2, c3⟩ := va_recv hK (hRl.P hb) hq1 (q0 := 0) rfl
      exact ⟨cell, c1, c2, by rw [← hq2]; exact c3⟩, fun U hU hW => ⟨rfl, hgl.warm hW, by rw [hU]; exact hRl⟩⟩ rfl hn hv.1 rfl (lv_room hcat) hd ⟨hc, hsl⟩
  intro T hT X
  rcases hrun T hT X with ⟨v, st₀, t, T', L, h0, X', hL, e1, e2, ⟨v', A', hv', hA', hQ'⟩, hgo⟩ | ⟨q, st₀, t, T', L, E, ce, h0, X', hL, e1, e2, ⟨A', hA', hQ'⟩, hce, hcv, hcl, hgo⟩
  · cases hv'
    have hz : s.heap.size ≤ T'.heap.size := by
      have := X'.same.2.1
      exact this
    obtain ⟨t2, a1, b1⟩ := kk v A' hQ' p l e s m args below meth c T'.heap (locs ++ L) ls hX (by rw [e1]; exact hA') hz (fun z hz => (List.mem_append.mp hz).elim (hl z) (hL z)) hv T' rfl X'
    exact ⟨t2, hgo t2 a1, b1⟩
  · have hz : s.heap.size ≤ T'.heap.size := by
      have := X'.same.2.1
      exact this
    obtain ⟨t2, a1, b1⟩ := kx E A' hQ' p l e s m args below meth c T'.heap (locs ++ L) ls q ce st hX (by rw [e1]; exact hA') hz (fun z hz => (List.mem_append.mp hz).elim (hl z) (hL z)) hv (by rw [e1]; exact hce) hcv hcl T' rfl X'
    exact ⟨t2, hgo.trans a1, b1⟩
theorem bw_callS {i n : Nat} {k' : bw_M} {R' : Room} {As : List Value} {st0 : List Value} {Q' : bw_O → bw_H → Prop} (pc' : Nat) (hd : decode k.2.1 pc = .ok (.invokestatic i, 3)) (hp : pc + 3 = pc') (hw : bw_cs k.1.cls i k' n) (hM : bw_C g R' k' As A Q')
    (hn : As.length = n) (hst : st0 = As.reverse ++ st) (hcat : (st.map fun v => v.category).sum ≤ 8) (hR : R'.frames + 1 ≤ R.frames ∧ 8 + (k'.2.2.1 + 11) + R'.locals ≤ R.locals) (hc : cu + R'.cells ≤ R.cells) (hsl : su + R'.slots ≤ R.slots)
    (kx : ∀ (E : String) (A' : bw_H), Q' (.inr E) A' → bw_T g R k Q (cu + R'.cells) (su + R'.slots) pc lv A' E)
    (kk : ∀ (v : Option Value) (A' : bw_H), Q' (.inl v) A' → bw_W g R k Q (cu + R'.cells) (su + R'.slots) pc' lv (v.toList ++ st) A') : bw_W g R k Q cu su pc lv st0 A := by
  intro p l e s m args below meth c H locs ls hX hRl hs hl hv
  subst hp
  subst hst
  obtain ⟨hw1, hw2⟩ := hw
  have hts := hX.2.2.2.2.2.1
  have hgl := hX.2.2.2.2.2.2.2.2.2.2.1
  have hrun := vx_runS (own := k.1.cls) (Ts := bw_uw) (As := As) (rest := st) (g := F0 m pc ls (As.reverse ++ st)) (H := H) (e := e) (below := below) (locs := locs) (cells := cu) (slots := su) (R := R) (meth := meth) ⟨hX.1, hX.2.1, hX.2.2.1, hX.2.2.2.2.1, hts⟩ (hM l hX.2.2.2.2.2.2.2.2.2.1) ⟨bw_cB hw1 hts hR, hts _ hw2⟩
    ⟨bw_blind, fun U hU hW => ⟨rfl, hgl.warm hW, by rw [hU]; exact hRl⟩⟩ rfl hn hv.1 rfl (lv_room hcat) hd ⟨hc, hsl⟩
  intro T hT X
  rcases hrun T hT X with ⟨v, st₀, t, T', L, h0, X', hL, e1, e2, ⟨v', A', hv', hA', hQ'⟩, hgo⟩ | ⟨q, st₀, t, T', L, E, ce, h0, X', hL, e1, e2, ⟨A', hA', hQ'⟩, hce, hcv, hcl, hgo⟩
  · cases hv'
    obtain ⟨t2, a1, b1⟩ := kk v A' hQ' p l e s m args below meth c T'.heap (locs ++ L) ls hX (by rw [e1]; exact hA') X'.same.2.1 (fun z hz => (List.mem_append.mp hz).elim (hl z) (hL z)) hv T' rfl X'
    exact ⟨t2, hgo t2 a1, b1⟩
  · obtain ⟨t2, a1, b1⟩ := kx E A' hQ' p l e s m args below meth c T'.heap (locs ++ L) ls q ce st hX (by rw [e1]; exact hA') X'.same.2.1 (fun z hz => (List.mem_append.mp hz).elim (hl z) (hL z)) hv (by rw [e1]; exact hce) hcv hcl T' rfl X'
    exact ⟨t2, hgo.trans a1, b1⟩
/-- the words of a static call of a method with handlers -/
def bw_ch (own : String) (idx : Nat) (k' : bw_M) (n : Nat) : Prop := Cond.methodLink own idx k'.1 ∈ bw_uw ∧ Cond.initialized k'.1.cls ∈ bw_uw ∧ Cond.codeWith k'.1 k'.2.1 k'.2.2.1 k'.2.2.2.1 k'.2.2.2.2 ∈ bw_uw ∧ Cond.static k'.1 ∈ bw_uw ∧
  (k'.1.cls ≠ "java/lang/invoke/MethodHandle" ∧ k'.1.cls ≠ "java/lang/invoke/VarHandle") ∧ (parseMethodDescriptor k'.1.desc).map (fun d => d.parameters.length) = some n
theorem bw_callH {i n : Nat} {k' : bw_M} {R' : Room} {As : List Value} {st0 : List Value} {Q' : bw_O → bw_H → Prop} (pc' : Nat) (hd : decode k.2.1 pc = .ok (.invokestatic i, 3)) (hp : pc + 3 = pc') (hw : bw_ch k.1.cls i k' n) (hM : bw_CH g R' k' As A Q')
    (hn : As.length = n) (hst : st0 = As.reverse ++ st) (hcat : (st.map fun v => v.category).sum ≤ 8) (hR : R'.frames + 1 ≤ R.frames ∧ 8 + (k'.2.2.1 + 11) + R'.locals ≤ R.locals) (hc : cu + R'.cells ≤ R.cells) (hsl : su + R'.slots ≤ R.slots)
    (kx : ∀ (E : String) (A' : bw_H), Q' (.inr E) A' → bw_T g R k Q (cu + R'.cells) (su + R'.slots) pc lv A' E)
    (kk : ∀ (v : Option Value) (A' : bw_H), Q' (.inl v) A' → bw_W g R k Q (cu + R'.cells) (su + R'.slots) pc' lv (v.toList ++ st) A') : bw_W g R k Q cu su pc lv st0 A := by
  intro p l e s m args below meth c H locs ls hX hRl hs hl hv
  subst hp
  subst hst
  obtain ⟨hw1, hw2, hw3, hw4, hw5, hw6⟩ := hw
  have hts := hX.2.2.2.2.2.1
  have hgl := hX.2.2.2.2.2.2.2.2.2.2.1
  have hrun := vx_runSX (own := k.1.cls) (Ts := bw_uw) (hh := k'.2.2.2.2) (bytes := k'.2.1) (maxL := k'.2.2.1) (ret := k'.2.2.2.1) (n := n) (index := i) (As := As) (rest := st) (g := F0 m pc ls (As.reverse ++ st)) (H := H) (e := e) (below := below) (locs := locs) (cells := cu) (slots := su) (R := R) (meth := meth) ⟨hX.1, hX.2.1, hX.2.2.1, hX.2.2.2.2.1, hts⟩ (hM l hX.2.2.2.2.2.2.2.2.2.1)
    ⟨⟨rfl, rfl, hR.1, hR.2, bw_pay hts hw3, List.mem_cons_self⟩, hts _ hw3, hts _ hw2, hw5, fun sig hsig => by rw [hsig] at hw6; exact (Option.some.inj hw6).symm, hts _ hw1, hts _ hw4⟩
    ⟨bw_blind, fun U hU hW => ⟨rfl, hgl.warm hW, by rw [hU]; exact hRl⟩⟩ rfl hn hv.1 rfl (lv_room hcat) hd ⟨hc, hsl⟩
  intro T hT X
  rcases hrun T hT X with ⟨v, st₀, t, T', L, h0, X', hL, e1, e2, ⟨v', A', hv', hA', hQ'⟩, hgo⟩ | ⟨q, st₀, t, T', L, E, ce, h0, X', hL, e1, e2, ⟨A', hA', hQ'⟩, hce, hcv, hcl, hgo⟩
  · cases hv'
    obtain ⟨t2, a1, b1⟩ := kk v A' hQ' p l e s m args below meth c T'.heap (locs ++ L) ls hX (by rw [e1]; exact hA') X'.same.2.1 (fun z hz => (List.mem_append.mp hz).elim (hl z) (hL z)) hv T' rfl X'
    exact ⟨t2, hgo t2 a1, b1⟩
  · obtain ⟨t2, a1, b1⟩ := kx E A' hQ' p l e s m args below meth c T'.heap (locs ++ L) ls q ce st hX (by rw [e1]; exact hA') X'.same.2.1 (fun z hz => (List.mem_append.mp hz).elim (hl z) (hL z)) hv (by rw [e1]; exact hce) hcv hcl T' rfl X'
    exact ⟨t2, hgo.trans a1, b1⟩
/-- constructors: they throw nothing -/
theorem bw_C.met {k' : bw_M} {R' : Room} {av : List Value} {Q' : bw_O → bw_H → Prop} (h : bw_C g R' k' av A Q') (hx : ∀ (E : String) (A' : bw_H), ¬ Q' (.inr E) A') (l : Launch) (hl : l.stackTraces = false) :
    Met l k'.1 (.code k'.1 k'.2.1 k'.2.2.1 k'.2.2.2.1 :: bw_uw) R' (va_Pc av (fun U => bw_gl g U ∧ bw_R g A U.heap)) (bw_q g Q') R'.cells R'.slots (bw_fr g) := by
  intro p e a1 a2 a3 s m args below b1 b2 b3 b4
  obtain ⟨n, o, c1, c2, c3, c4⟩ := h l hl p e a1 a2 a3 s m args below b1 b2 b3 b4
  refine ⟨n, o, c1, c2, c3, ?_⟩
  rcases c4 with c4 | ⟨q, -, E, ce, L, ⟨A', hA', hQ⟩, -⟩
  · exact c4
  · exact absurd hQ (hx E A')
theorem bw_callI {i n b : Nat} {k' : bw_M} {R' : Room} {As : List Value} {st0 : List Value} {Q' : bw_O → bw_H → Prop} (pc' : Nat) (hd : decode k.2.1 pc = .ok (.invokespecial i, 3)) (hp : pc + 3 = pc') (hw : bw_ci k.1.cls i k' n) (hM : bw_C g R' k' (.ref b :: As) A Q')
    (hx : ∀ (E : String) (A' : bw_H), ¬ Q' (.inr E) A') (hn : As.length = n) (hst : st0 = As.reverse ++ .ref b :: st) (hcat : (st.map fun v => v.category).sum ≤ 8) (hR : R'.frames + 1 ≤ R.frames ∧ 8 + (k'.2.2.1 + 11) + R'.locals ≤ R.locals) (hc : cu + R'.cells ≤ R.cells) (hsl : su + R'.slots ≤ R.slots)
    (kk : ∀ (v : Option Value) (A' : bw_H), Q' (.inl v) A' → bw_W g R k Q (cu + R'.cells) (su + R'.slots) pc' lv (v.toList ++ st) A') : bw_W g R k Q cu su pc lv st0 A := by
  intro p l e s m args below meth c H locs ls hX hRl hs hl hv
  subst hp
  subst hst
  obtain ⟨hw1, hw2, hw3, hw4⟩ := hw
  have hts := hX.2.2.2.2.2.1
  have hgl := hX.2.2.2.2.2.2.2.2.2.2.1
  have hcb := bw_cB (R := R) (R' := R') hw1 hts hR
  have hMM := hM.met hx l hX.2.2.2.2.2.2.2.2.2.1
  rw [hw4] at hcb hMM
  have hrun := va_runI (own := k.1.cls) (Ts := bw_uw) (b := b) (As := As) (rest := st) (g := F0 m pc ls (As.reverse ++ .ref b :: st)) (H := H) (e := e) (below := below) (locs := locs) (cells := cu) (slots := su) (R := R) (meth := meth) ⟨hX.1, hX.2.1, hX.2.2.1, hX.2.2.2.2.1, hts⟩ hMM ⟨hcb, hw3, hts _ hw2⟩
    ⟨bw_blind, fun U hU hW => ⟨rfl, hgl.warm hW, by rw [hU]; exact hRl⟩⟩ rfl hn hv.1 rfl (lv_room hcat) hd ⟨hc, hsl⟩
  intro T hT X
  obtain ⟨v, st₀, t, T', L, h0, X', hL, e1, e2, ⟨v', A', hv', hA', hQ'⟩, hgo⟩ := hrun T hT X
  cases hv'
  obtain ⟨t2, a1, b1⟩ := kk v A' hQ' p l e s m args below meth c T'.heap (locs ++ L) ls hX (by rw [e1]; exact hA') X'.same.2.1 (fun z hz => (List.mem_append.mp hz).elim (hl z) (hL z)) hv T' rfl X'
  exact ⟨t2, hgo t2 a1, b1⟩
/-- super(): Object's -/
theorem bw_objInit {i b : Nat} (pc' : Nat) (hd : decode k.2.1 pc = .ok (.invokespecial i, 3)) (hp : pc + 3 = pc') (hw1 : Cond.methodLink k.1.cls i Lib.objectInit ∈ bw_uw) (hw2 : Cond.instanceMethod Lib.objectInit ∈ bw_uw) (hw3 : Cond.code Lib.objectInit ⟨#[0xb1]⟩ 1 none ∈ bw_uw) (hf : 1 ≤ R.frames) (hcat : (st.map fun v => v.category).sum + 12 ≤ R.locals)
    (kk : bw_W g R k Q cu su pc' lv st A) : bw_W g R k Q cu su pc lv (.ref b :: st) A := by
  intro p l e s m args below meth c H locs ls hX hR hs hl hv
  subst hp
  have hts := hX.2.2.2.2.2.1
  exact W.objInit hX.1 hX.2.1 hX.2.2.2.2.1 (hts _ hw1) (hts _ hw2) (hts _ hw3) rfl (hv.1.trans hX.2.2.1.symm) rfl hd hf (by show 2 * 0 + _ + 12 ≤ _; omega) (kk p l e s m args below meth c H locs ls hX hR hs hl hv)
theorem bw_max {i : Nat} {x y : Int32} (pc' : Nat) (hd : decode k.2.1 pc = .ok (.invokestatic i, 3)) (hp : pc + 3 = pc') (hw1 : Cond.methodLink k.1.cls i Lib.Math.max.name ∈ bw_uw) (hw2 : Cond.static Lib.Math.max.name ∈ bw_uw) (hw3 : Cond.initialized "java/lang/Math" ∈ bw_uw) (hw4 : Cond.code Lib.Math.max.name Lib.Math.max.code 2 (some .int) ∈ bw_uw) (hf : 1 ≤ R.frames) (hcat : (st.map fun v => v.category).sum + 13 ≤ R.locals) (hc : cu ≤ R.cells) (hsl : su ≤ R.slots)
    (kk : bw_W g R k Q cu su pc' lv (.int (if x < y then y else x) :: st) A) : bw_W g R k Q cu su pc lv (.int y :: .int x :: st) A := by
  intro p l e s m args below meth c H locs ls hX hR hs hl hv
  subst hp
  have hts := hX.2.2.2.2.2.1
  exact va_mmax hX.1 hX.2.1 (hX.2.2.1.trans hv.1.symm) hX.2.2.2.2.1 (hts _ hw1) (hts _ hw2) (hts _ hw3) (hts _ hw4) hf hcat hc hsl hd (kk p l e s m args below meth c H locs ls hX hR hs hl hv)
/-- System.arraycopy between two int arrays -/
theorem bw_copy {i a b na nb : Nat} {f h : Nat → Int32} {sp dp n : Int32} (pc' : Nat) (hd : decode k.2.1 pc = .ok (.invokestatic i, 3)) (hp : pc + 3 = pc') (hw1 : Cond.methodLink k.1.cls i arraycopyName ∈ bw_uw) (hw2 : Cond.native arraycopyName ∈ bw_uw) (hw3 : Cond.static arraycopyName ∈ bw_uw) (hw4 : Cond.initialized "java/lang/System" ∈ bw_uw)
    (ha : A.2 a = some (bw_ai g na f)) (hb : A.2 b = some (bw_ai g nb h)) (h1 : ¬ sp < 0) (h2 : ¬ dp < 0) (h3 : ¬ n < 0) (h4 : sp.toNatClampNeg + n.toNatClampNeg ≤ na) (h5 : dp.toNatClampNeg + n.toNatClampNeg ≤ nb) (hf : 1 ≤ R.frames) (hcat : (st.map fun v => v.category).sum + (nativeFrameWords "java/lang/System" "arraycopy" 5 + 11) ≤ R.locals)
    (kk : bw_W g R k Q cu su pc' lv st (bw_up A b (bw_ai g nb (va_cpy f h sp.toNatClampNeg dp.toNatClampNeg n.toNatClampNeg)))) : bw_W g R k Q cu su pc lv (.int n :: .int dp :: .ref b :: .int sp :: .ref a :: st) A := by
  intro p l e s m args below meth c H locs ls hX hR hs hl hv
  subst hp
  have hts := hX.2.2.2.2.2.1
  have hK := hX.2.2.2.2.2.2.2.2.2.2.1.1
  have nn : ∀ z : Int32, ¬ z < 0 → z.toInt = (z.toNatClampNeg : Int) := by
    intro z hz
    have hz0 : (0 : Int) ≤ z.toInt := by
      have := Int32.not_lt.mp hz
      simpa using Int32.le_iff_toInt_le.mp this
    show z.toInt = ((z.toInt.toNat : Nat) : Int)
    omega
  intro T hT X
  have hc0 : H[a]? = some (vp_cell (g.2.1 0) (na, .inl f)) := (hR.2.2.2 a _ ha).2
  have hc1 : H[b]? = some (vp_cell (g.2.1 0) (nb, .inl h)) := (hR.2.2.2 b _ hb).2
  obtain ⟨-, k0, hk0, cm0, hkk0⟩ := (hK.2 0 _ rfl).1 na (fun j => .int (f j))
  obtain ⟨-, k1, hk1, cm1, hkk1⟩ := (hK.2 0 _ rfl).1 nb (fun j => .int (h j))
  obtain ⟨vm', X', step⟩ := X.arraycopy hX.1 hX.2.2.2.2.1 (hts _ hw1) (hts _ hw2) (hts _ hw3) (hts _ hw4) (src := a) (dst := b) (cs := vp_cell (g.2.1 0) (na, .inl f)) (cd := vp_cell (g.2.1 0) (nb, .inl h)) (srcPos := sp) (destPos := dp) (n := n) (by rw [hT]; exact hc0) (by rw [hT]; exact hc1)
    (fun _ h => by cases h) (fun _ h => by cases h) (fun h => by cases h) (fun h => by cases h) hk0 hk1 hkk0 hkk1 (by rfl) h1 h2 h3
    (by rw [nn sp h1, nn n h3]; show ¬ _ > ((arrV (g.2.1 0) na (fun j => .int (f j))).slots.size : Int); rw [arrV_size]; omega)
    (by rw [nn dp h2, nn n h3]; show ¬ _ > ((arrV (g.2.1 0) nb (fun j => .int (h j))).slots.size : Int); rw [arrV_size]; omega)
    (fun vm₁ _ i hi => by
      have e : (vp_cell (g.2.1 0) (na, .inl f)).slots.getD (sp.toNatClampNeg + i) .null = .int (f (sp.toNatClampNeg + i)) := by
        show (arrV (g.2.1 0) na (fun j => .int (f j))).slots.getD _ _ = _
        rw [Array.getD_eq_getD_getElem?, arrV_read _ _ (by omega)]
        rfl
      refine ⟨?_, ?_⟩
      · rw [e]
        rfl
      · rw [e]
        exact trivial)
    (g := F0 m pc ls (.int n :: .int dp :: .ref b :: .int sp :: .ref a :: st)) rfl (by rw [hX.2.2.1]; exact hv.1) (rest := st) rfl (by rw [hX.2.1]; exact hd) hf (by show 2 * 0 + _ + _ ≤ _; omega)
  have e1 : copied (vp_cell (g.2.1 0) (na, .inl f)) (vp_cell (g.2.1 0) (nb, .inl h)) sp dp n = vp_cell (g.2.1 0) (nb, .inl (va_cpy f h sp.toNatClampNeg dp.toNatClampNeg n.toNatClampNeg)) := va_copied (fun z => .int z) (g.2.1 0) (g.2.1 0) f h h4
  rw [e1] at X' step
  have hlt : b < H.size := (Array.getElem?_eq_some_iff.mp hc1).1
  have hheap : ((T.setVm vm').setCell b (vp_cell (g.2.1 0) (nb, .inl (va_cpy f h sp.toNatClampNeg dp.toNatClampNeg n.toNatClampNeg)))).heap = H.setIfInBounds b (vp_cell (g.2.1 0) (nb, .inl (va_cpy f h sp.toNatClampNeg dp.toNatClampNeg n.toNatClampNeg))) := by rw [← hT]; rfl
  have oq : ∀ q : Nat, q ≠ b → (H.setIfInBounds b (vp_cell (g.2.1 0) (nb, .inl (va_cpy f h sp.toNatClampNeg dp.toNatClampNeg n.toNatClampNeg))))[q]? = H[q]? := fun q hq => by simp [Array.getElem?_setIfInBounds, Ne.symm hq]
  obtain ⟨t, a1, b1⟩ := kk p l e s m args below meth c _ _ ls hX (hR.up hb (by simp) oq (show (H.setIfInBounds b _)[b]? = some _ by simp [Array.getElem?_setIfInBounds, hlt])) (by simp; exact hs) (fun q hq => by
      rcases List.mem_append.mp hq with h | h
      · exact hl q h
      · obtain ⟨z, -, hz⟩ := List.mem_map.mp h
        rw [← hz]
        exact (hR.2.2.2 b _ hb).1) hv _ hheap X'
  exact ⟨t, step t a1, b1⟩
/-! throw new E("text") -/
def bw_tl (own : String) (ik ic : Nat) (E : String) (names : List String) : Prop := Bundle.fit E = true ∧ (∀ n ∈ names, Bundle.fit n = true) ∧ Cond.classLink own ik E ∈ bw_uw ∧ Cond.initialized E ∈ bw_uw ∧ (∀ w ∈ vx_atS own ic E names, w ∈ bw_uw ∨ w ∈ bw_fw)
theorem bw_ot {w : Cond} (h : w ∈ bw_uw ∨ w ∈ bw_fw) : vx_ot w = true := by
  rcases h with h | h
  · unfold vx_ot
    rw [bw_uwg h]
    simp
  · have hf : bw_fc w = true := (List.mem_filter.mp h).2
    cases w <;> first | rfl | (cases hf)
theorem bw_throwX {p : Program} {l : Launch} {s : State} {m : MethodId} {args : Array Value} {meth : Method} {c : Code} {H : Heap} {locs : List Loc} {E : String} {own : String} {ic : Nat} {names : List String} (hX : bw_X g k p l s m args meth c) (h : ∀ w ∈ vx_atS own ic E names, w ∈ bw_uw ∨ w ∈ bw_fw) : ∀ w ∈ vx_atS own ic E names, w.before args s = true := by
  intro w hw
  rcases h w hw with h | hx
  · exact hX.2.2.2.2.2.1 w h
  · exact bw_fw.use hx (hX.2.2.2.2.2.2.2.2.2.2.1.2.2.2.2.1 w hx)
theorem bw_thrown {H : Heap} {s t : State} {E : String} (hR : bw_R g A H) (hq : ∀ n : Nat, A.1 ≤ n → Q (.inr E) (n, A.2)) (hz : H.size ≤ t.heap.size) (hk : ∀ q : Nat, q < H.size → t.heap[q]? = H[q]?) : bw_x g Q E s t := by
  obtain ⟨h1, h2, h3, h4⟩ := hR
  refine ⟨(t.heap.size, A.2), ⟨rfl, by show _ ≤ t.heap.size; omega, fun q hq => by rw [hk q (by omega)]; exact h3 q hq, fun a e ha => ?_⟩, hq _ (by omega)⟩
  have h5 := h4 a e ha
  exact ⟨h5.1, va_at.kept h5.2 (hk a (va_at.lt h5.2))⟩
theorem bw_throw {ik is ic : Nat} {E : String} (text : String) {names : List String} (d0 : decode k.2.1 pc = .ok (.new ik, 3)) (d3 : decode k.2.1 (pc + 3) = .ok (.dup, 1)) (d4 : decode k.2.1 (pc + 4) = .ok (.ldc is, 2)) (d6 : decode k.2.1 (pc + 6) = .ok (.invokespecial ic, 3)) (d9 : decode k.2.1 (pc + 9) = .ok (.athrow, 1))
    (ht : bw_tl k.1.cls ik ic E names) (hs0 : (k.1.cls, is, text) ∈ bw_ss) (h0 : k.2.2.2.2 = []) (hf : names.length + 3 < R.frames) (hlo : (st.map fun v => v.category).sum + (13 * (names.length + 1) + 43) ≤ R.locals) (hc : cu + 1 ≤ R.cells) (hsl : su + 6 ≤ R.slots)
    (hq : ∀ n : Nat, A.1 ≤ n → Q (.inr E) (n, A.2)) : bw_W g R k Q cu su pc lv st A := by
  intro p l e s m args below meth c H locs ls hX hR hs hl hv
  obtain ⟨t1, t2, t3, t4, t5⟩ := ht
  have hts := hX.2.2.2.2.2.1
  have hgl := hX.2.2.2.2.2.2.2.2.2.2.1
  have hkp : ∀ a : Nat, a < g.2.2.1.size → ¬ bw_fr g a → s.heap[a]? = g.2.2.1[a]? := fun a h1 h2 => hX.2.2.2.2.2.2.2.2.2.2.2.2 a h1
  obtain ⟨sa, hsa⟩ := hgl.2.2.2.1 _ hs0
  refine vx_throwS (A := bw_fr g) hX.1 hX.2.1 hX.2.2.2.2.2.2.2.2.2.1 hX.2.2.2.2.1 t1 t2 (hts _ t3) (hts _ t4) hsa (bw_throwX (H := H) (locs := locs) hX t5) (fun w hw => ?_) (vx_Zq.kept hgl.2.2.1.1 hkp) (vx_Zq.kept hgl.2.2.1.2 hkp) (bw_Sx hX hR hs hl) (hv.1.trans hX.2.2.1.symm) d0 d3 d4 d6 d9 (fun x hx => ?_) hf hlo hc hsl hX.2.2.2.2.2.2.1 (fun t _ hz hk9 => bw_thrown hR hq hz hk9) hl hc hsl
  · rcases List.mem_cons.mp hw with rfl | hw
    · exact bw_ot (Or.inl t3)
    · rcases List.mem_cons.mp hw with rfl | hw
      · exact bw_ot (Or.inl t4)
      · exact bw_ot (t5 w hw)
  · rw [hX.2.2.2.2.2.2.2.2.1, h0] at hx
    cases hx
theorem bw_throwW {ik is ic : Nat} {E : String} (text : String) {names : List String} (d0 : decode k.2.1 pc = .ok (.new ik, 3)) (d3 : decode k.2.1 (pc + 3) = .ok (.dup, 1)) (d4 : decode k.2.1 (pc + 4) = .ok (.ldc_w is, 3)) (d6 : decode k.2.1 (pc + 7) = .ok (.invokespecial ic, 3)) (d9 : decode k.2.1 (pc + 10) = .ok (.athrow, 1))
    (ht : bw_tl k.1.cls ik ic E names) (hs0 : (k.1.cls, is, text) ∈ bw_ss) (h0 : k.2.2.2.2 = []) (hf : names.length + 3 < R.frames) (hlo : (st.map fun v => v.category).sum + (13 * (names.length + 1) + 43) ≤ R.locals) (hc : cu + 1 ≤ R.cells) (hsl : su + 6 ≤ R.slots)
    (hq : ∀ n : Nat, A.1 ≤ n → Q (.inr E) (n, A.2)) : bw_W g R k Q cu su pc lv st A := by
  intro p l e s m args below meth c H locs ls hX hR hs hl hv
  obtain ⟨t1, t2, t3, t4, t5⟩ := ht
  have hts := hX.2.2.2.2.2.1
  have hgl := hX.2.2.2.2.2.2.2.2.2.2.1
  have hkp : ∀ a : Nat, a < g.2.2.1.size → ¬ bw_fr g a → s.heap[a]? = g.2.2.1[a]? := fun a h1 h2 => hX.2.2.2.2.2.2.2.2.2.2.2.2 a h1
  obtain ⟨sa, hsa⟩ := hgl.2.2.2.1 _ hs0
  refine vx_throwSW (A := bw_fr g) hX.1 hX.2.1 hX.2.2.2.2.2.2.2.2.2.1 hX.2.2.2.2.1 t1 t2 (hts _ t3) (hts _ t4) hsa (bw_throwX (H := H) (locs := locs) hX t5) (fun w hw => ?_) (vx_Zq.kept hgl.2.2.1.1 hkp) (vx_Zq.kept hgl.2.2.1.2 hkp) (bw_Sx hX hR hs hl) (hv.1.trans hX.2.2.1.symm) d0 d3 d4 d6 d9 (fun x hx => ?_) hf hlo hc hsl hX.2.2.2.2.2.2.1 (fun t _ hz hk9 => bw_thrown hR hq hz hk9) hl hc hsl
  · rcases List.mem_cons.mp hw with rfl | hw
    · exact bw_ot (Or.inl t3)
    · rcases List.mem_cons.mp hw with rfl | hw
      · exact bw_ot (Or.inl t4)
      · exact bw_ot (t5 w hw)
  · rw [hX.2.2.2.2.2.2.2.2.1, h0] at hx
    cases hx
/-! the script -/
theorem bw_sld {j : Int32} (pc' : Nat) (hd : decode k.2.1 pc = .ok (.iaload, 1)) (hp : pc + 1 = pc') (hin : vp_in j g.2.2.2.2.2.1)
    (kk : bw_W g R k Q cu su pc' lv (.int (g.2.2.2.2.2.2 j.toNatClampNeg) :: st) A) : bw_W g R k Q cu su pc lv (.int j :: .ref g.2.2.2.2.1 :: st) A := by
  intro p l e s m args below meth c H locs ls hX hR hs hl hv
  subst hp
  obtain ⟨hx, hb⟩ := hX.2.2.2.2.2.2.2.2.2.2.1.2.2.2.2.2.2.2.2.2
  refine va_sld (A := bw_fr g) hX.1 hX.2.1 hx hb (Nat.not_le.mpr hb) (H0 := g.2.2.1) ⟨?_, fun q h1 h2 => hR.2.2.1 q h1, hl⟩ hin hd (kk p l e s m args below meth c H locs ls hX hR hs hl hv)
  have := hR.2.1
  have h2 := hR.1
  show bw_lo g ≤ H.size
  omega
theorem bw_slen (pc' : Nat) (hd : decode k.2.1 pc = .ok (.arraylength, 1)) (hp : pc + 1 = pc')
    (kk : bw_W g R k Q cu su pc' lv (.int (Int32.ofNat g.2.2.2.2.2.1) :: st) A) : bw_W g R k Q cu su pc lv (.ref g.2.2.2.2.1 :: st) A := by
  intro p l e s m args below meth c H locs ls hX hR hs hl hv
  subst hp
  obtain ⟨hx, hb⟩ := hX.2.2.2.2.2.2.2.2.2.2.1.2.2.2.2.2.2.2.2.2
  refine va_slen (A := bw_fr g) hX.1 hX.2.1 hx hb (Nat.not_le.mpr hb) (H0 := g.2.2.1) ⟨?_, fun q h1 h2 => hR.2.2.1 q h1, hl⟩ hd (kk p l e s m args below meth c H locs ls hX hR hs hl hv)
  have := hR.2.1
  have h2 := hR.1
  show bw_lo g ≤ H.size
  omega

end BWR
