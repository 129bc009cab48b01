/-! METHODS WITH HANDLERS: contracts, calls whose exceptions are caught -/
def px_YH (Γ : px_Cm) (ret : Option FieldType) (hs : List (Nat × Nat × Nat × Nat)) : Prop := Γ.meth.sig.returnType = ret ∧ Γ.meth.locks = false ∧ Γ.c.exceptionTable.toList = tableOf hs
def px_PH (l : Launch) (G : px_Cg) (y : MethodName) (cc : ByteArray) (maxL : Nat) (ret : Option FieldType) (hs : List (Nat × Nat × Nat × Nat)) (rm : Room) (w : Bool) (av : List Value) (π : px_H) (K : Option Value ⊕ String → px_H → Prop) : Prop :=
  px_Met l y [Cond.codeWith y cc maxL ret hs] rm (va_Pc av (fun U => px_W G.S0 G.D G.cl G.z0 π U)) (px_Qc G K) rm.cells rm.slots (px_fr G w)
theorem px_Met.ofWH {l : Launch} {y : MethodName} {rm : Room} {Pc : Array Value → State → Prop} {Qc : Array Value → State → Outcome → State → Prop} {mc ms : Nat} {free : Addr → Prop} {cc : ByteArray} {maxL : Nat} {ret : Option FieldType} {hs : List (Nat × Nat × Nat × Nat)}
    (hy : plainName y.cls = true)
    (body : ∀ p e s m args below meth c s₁, BodyLoose p l y (headSpec [Cond.codeWith y cc maxL ret hs] rm) cc maxL ret e s m args below meth c s₁ → c.maxLocals = maxL → c.exceptionTable.toList = tableOf hs → Pc args s →
      W p l e rm s m args below meth c s.heap [] 0 0 (px_MQ below Qc args s mc ms free) (entryFrame m args maxL)) : px_Met l y [Cond.codeWith y cc maxL ret hs] rm Pc Qc mc ms free := by
  refine MetFree.of_bodyS (code := cc) (maxLocals := maxL) (ret := ret) hy ?_ ?_
  · intro args s m h hn
    obtain ⟨m', meth, c, hn', h1, h2, h3, h4, -, h5, h6, -⟩ := Cond.codeWith_spec (atoms_spec (ws := [Cond.codeWith y cc maxL ret hs]) h _ List.mem_cons_self)
    cases hn.symm.trans hn'
    exact ⟨meth, c, h1, h2, h3, h4, h5, h6⟩
  · intro p e s m args below meth c s₁ B hml hP _
    obtain ⟨m', meth', c', hn', hmeth, hcode, -, -, htable, -, -, -⟩ := Cond.codeWith_spec (atoms_spec (ws := [Cond.codeWith y cc maxL ret hs]) B.pre _ List.mem_cons_self)
    cases B.named.symm.trans hn'
    cases B.method.symm.trans hmeth
    cases (Stand.of_body B).code.symm.trans hcode
    have hh0 : s₁.heap = s.heap := by rw [B.state]; rfl
    obtain ⟨t, a1, o, b1, b2, b3⟩ := body p e s m args below meth c s₁ B hml (by rw [← htable, table_eq]) hP s₁ hh0 (Stand.of_body B)
    exact ⟨t, o, a1, b1, b2, ⟨b3.1, b3.2⟩⟩
theorem px_PH.intro {l : Launch} {G : px_Cg} {y : MethodName} {cc : ByteArray} {maxL : Nat} {ret : Option FieldType} {hs : List (Nat × Nat × Nat × Nat)} {rm : Room} {w : Bool} {av : List Value} {π : px_H} {K : Option Value ⊕ String → px_H → Prop} {ls : List (Option Value)}
    (hy : plainName y.cls = true) (hZ : px_Z G.S0 G.D G.cl G.z0 G.ρ G.Ts) (hcat : ∀ v ∈ av, v.category = 1) (hlen : av.length ≤ maxL) (hls : ls = av.map some ++ List.replicate (maxL - av.length) none)
    (body : ∀ Γ : px_Cm, Γ.l = l → Γ.R = rm → px_X Γ G cc y.cls → px_YH Γ ret hs → Γ.s.heap.size = π.1 → (∀ q : Nat, q < G.z0 → Γ.s.heap[q]? = G.S0.heap[q]?) → px_G Γ G (px_Q Γ G w K) false 0 0 0 ls [] π) : px_PH l G y cc maxL ret hs rm w av π K := by
  refine px_Met.ofWH hy ?_
  intro p e s m args below meth c s₁ B hml htab hv
  obtain ⟨rfl, hW, hM⟩ := hv
  have h := body (p, l, e, rm, s, m, av.toArray, below, meth, c) rfl rfl ⟨B.exec, B.bytes, findClass_of_methodNamed B.named, hW, hZ⟩ ⟨B.returns, B.notSynchronized, htab⟩ hM.1.symm hM.2.2.1
  have hl := lv_entry av (n := maxL) (by rw [px_sl1 hcat]; exact hlen)
  rw [lg_entry_eq]
  refine h s.heap _ [] ⟨by rw [hml]; exact hl.1, hl.2.1, by rw [hls, hml]; simp; omega, fun i v hi => ?_⟩ hM (fun q hq => by cases hq)
  have hi2 : av[i]? = some v := by
    rw [hls] at hi
    by_cases hlt : i < av.length
    · rw [List.getElem?_append_left (by simpa using hlt), List.getElem?_map] at hi
      cases hq : av[i]? with
      | none => rw [hq] at hi; cases hi
      | some w =>
        rw [hq] at hi
        simp at hi
        rw [hi]
    · rw [List.getElem?_append_right (by simpa using Nat.not_lt.mp hlt), List.getElem?_replicate] at hi
      split at hi <;> cases hi
  refine ⟨hcat v (List.mem_of_getElem? hi2), ?_⟩
  have h3 := hl.2.2 _ (px_args1 hcat 0 i v hi2)
  simpa using h3
/-! THE SEARCH FOR A HANDLER, in tables that may not know the rows' classes yet -/
/-- a row whose class is linked is asked as in tables that hold that link already -/
theorem ph_cold {e : Env} {S : State} {f : JFrame} {a : Addr} {x : ExceptionTableEntry} {t : List ExceptionTableEntry} {k : ClassId} {Q : Handler → Pre} {E : CtlPost} {d : Bool} {acts : List Action}
    (hl : S.vm.ClassLinks e.platform f.method.cls x.catchType k) (hx : covers x f.pc = true) (h0 : x.catchType ≠ 0) :
    wp (findHandler.go f a (x :: t)) Q E e d acts S ↔ wp (findHandler.go f a (x :: t)) Q E e d acts (S.setVm (S.vm.noted f.method.cls x.catchType (.cls k))) := by
  obtain ⟨a1, a2⟩ := (resolveClass_links e.toSetting hl).op (op := VmOp.resolveClass f.method.cls x.catchType) rfl
  obtain ⟨kk, hkk, hres⟩ := hl.ready
  obtain ⟨b1, b2⟩ := resolveClass_memo e hkk hres
  simp only [covers] at hx
  simp [findHandler.go, hx, h0, a1, a2, b1, b2, VmOp.dirties, VmOp.acts]
  exact Iff.rfl
/-- one row: what she answers is told by the tables of the start -/
theorem ph_one {e : Env} {s S : State} {f : JFrame} {a : Addr} {cell : Cell} {x : ExceptionTableEntry} {t : List ExceptionTableEntry} {k : ClassId} (hW : s.WarmedH S.vm) (hcell : S.heap[a]? = some cell) (hv : cell.vm.isStatics = false) (hk : ∃ q, s.vm.classes[cell.cls]? = some q)
    (hx : covers x f.pc = true) (h0 : x.catchType ≠ 0) (hl : s.vm.ClassLinks e.platform f.method.cls x.catchType k) :
    s.WarmedH (S.vm.noted f.method.cls x.catchType (.cls k)) ∧ ∀ (Q : Handler → Pre) (E : CtlPost) (d : Bool) (acts : List Action), (wp (findHandler.go f a (x :: t)) Q E e d acts S ↔
      if s.vm.assignable cell.cls k = true then Q (.found x.handlerPc) d acts (S.setVm (S.vm.noted f.method.cls x.catchType (.cls k))) else wp (findHandler.go f a t) Q E e d acts (S.setVm (S.vm.noted f.method.cls x.catchType (.cls k)))) := by
  have hl' := hW.classLinks hl
  obtain ⟨dk, _, _, ck, hd, _, _, _, _, hc, _, hop⟩ := hl.here
  have hN : s.WarmedH (S.vm.noted f.method.cls x.catchType (.cls k)) := hW.noted hd hop (State.rightAt_cls hl)
  obtain ⟨k0, hk0⟩ := hk
  obtain ⟨q0, hq0, -⟩ := hN.alike.2.2 _ _ hk0
  obtain ⟨q1, hq1, -⟩ := hN.alike.2.2 _ _ hc
  have hA : (S.setVm (S.vm.noted f.method.cls x.catchType (.cls k))).vm.assignable cell.cls k = s.vm.assignable cell.cls k := hN.alike.assignable _ _
  refine ⟨hN, fun Q E d acts => ?_⟩
  rw [ph_cold hl' hx h0, W.findHandler_go_class hx h0 (s := S.setVm (S.vm.noted f.method.cls x.catchType (.cls k))) hl'.ready hcell (VmData.ne_statics_of hv) ⟨q0, hq0⟩ ⟨q1, hq1⟩, hA]
/-- rows that don't take the object, then one that does -/
theorem ph_find {e : Env} {s : State} {f : JFrame} {a : Addr} {cell : Cell} (hv : cell.vm.isStatics = false) (hk : ∃ q, s.vm.classes[cell.cls]? = some q) {row : ExceptionTableEntry} {rest : List ExceptionTableEntry} {k : ClassId}
    (hx : covers row f.pc = true) (h0 : row.catchType ≠ 0) (hl : s.vm.ClassLinks e.platform f.method.cls row.catchType k) (hfit : s.vm.assignable cell.cls k = true) :
    ∀ (pre : List ExceptionTableEntry) (S : State), s.WarmedH S.vm → S.heap[a]? = some cell → (∀ y ∈ pre, y.catchType ≠ 0 ∧ ∃ q, s.vm.ClassLinks e.platform f.method.cls y.catchType q ∧ s.vm.assignable cell.cls q = false) →
      ∃ vm', s.WarmedH vm' ∧ ∀ (Q : Handler → Pre) (E : CtlPost) (d : Bool) (acts : List Action), (wp (findHandler.go f a (pre ++ row :: rest)) Q E e d acts S ↔ Q (.found row.handlerPc) d acts (S.setVm vm')) := by
  intro pre
  induction pre with
  | nil =>
    intro S hW hc _
    obtain ⟨hN, h⟩ := ph_one (t := rest) hW hc hv hk hx h0 hl
    exact ⟨_, hN, fun Q E d acts => by rw [List.nil_append, h, if_pos hfit]⟩
  | cons y ys ih =>
    intro S hW hc hp
    have hp2 : ∀ z ∈ ys, z.catchType ≠ 0 ∧ ∃ q, s.vm.ClassLinks e.platform f.method.cls z.catchType q ∧ s.vm.assignable cell.cls q = false := fun z hz => hp z (List.mem_cons_of_mem _ hz)
    obtain ⟨y0, ky, hly, hno⟩ := hp y List.mem_cons_self
    by_cases hcov : covers y f.pc = true
    · obtain ⟨hN, h⟩ := ph_one (t := ys ++ row :: rest) hW hc hv hk hcov y0 hly
      obtain ⟨vm', h1, h2⟩ := ih (S.setVm (S.vm.noted f.method.cls y.catchType (.cls ky))) hN hc hp2
      exact ⟨vm', h1, fun Q E d acts => by
        rw [List.cons_append, h, if_neg (by rw [hno]; decide)]
        exact h2 Q E d acts⟩
    · obtain ⟨vm', h1, h2⟩ := ih S hW hc hp2
      exact ⟨vm', h1, fun Q E d acts => by
        rw [List.cons_append, W.findHandler_go_skip (Bool.eq_false_iff.mpr hcov)]
        exact h2 Q E d acts⟩
/-- a search that ends in a handler, the tables warmer behind it: the frame goes on there -/
theorem ph_goes {p : Program} {l : Launch} {e : Env} {R : Room} {s : State} {m : MethodId} {args : Array Value} {below : List Frame} {meth : Method} {c : Code} {T : State} {locs : List Loc} {nc ns : Nat} (X : Stand p l e R s m args below meth c T locs nc ns) {g : JFrame} (hg : g.method = m) {a : Addr} {pc : Nat} {vm' : Vm}
    (hf : ∀ (Q : Handler → Pre) (E : CtlPost) (d : Bool) (acts : List Action), (wp (findHandler g a) Q E e d acts ((T.setTop g).pushFrame (.throwing a)) ↔ Q (.found pc) d acts (((T.setTop g).pushFrame (.throwing a)).setVm vm'))) {t : State}
    (h : Steps p.tables e below ((T.setVm vm').setTop { g with pc := pc, stack := [.ref a] }) t) : Steps p.tables e below ((T.setTop g).pushFrame (.throwing a)) t := by
  have hA : At T g.method c below := by rw [hg]; exact X.here
  obtain ⟨hgo, hw⟩ := hA.throwing a
  obtain ⟨g0, hg0⟩ := Option.isSome_iff_exists.mp hA.top
  obtain ⟨r, hr⟩ := State.topJava?_eq_some.mp hg0
  have hr2 : (T.setVm vm').frames = .java g0 :: r := hr
  have hone : (stepThrowing e ((T.setTop g).pushFrame (.throwing a)) a (.java g :: T.frames.tail)).1 = (((T.setTop g).pushFrame (.throwing a)).setVm vm').setFrames (.java { g with pc := pc, stack := [.ref a] } :: T.frames.tail) := by
    simp only [stepThrowing, searchFrame, vmDo]
    generalize hres : Sem.go _ e false [] ((T.setTop g).pushFrame (.throwing a)) = res
    obtain ⟨as, rfl, -⟩ := Sem.eq_ok_of hres (a := Handler.found pc) (s' := ((T.setTop g).pushFrame (.throwing a)).setVm vm') (acts' := []) (by simp [hf _ _ _ _])
    rfl
  have hend : (((T.setTop g).pushFrame (.throwing a)).setVm vm').setFrames (.java { g with pc := pc, stack := [.ref a] } :: T.frames.tail) = (T.setVm vm').setTop { g with pc := pc, stack := [.ref a] } := by
    rw [State.setTop_of_frames _ hr2, State.pushFrame, State.setTop_of_frames _ hr, State.setFrames_setFrames, State.setFrames_setVm, State.setFrames_setFrames, hr]
    rfl
  refine Steps.head hgo hw ?_
  rw [stepThread_throwing (frames_entered hA.top _), hone, hend]
  exact h
def px_ca (G : px_Cg) (k nm : String) : Prop := ∀ (a : Array Value) (U : State), G.S0.WarmedH U.vm → (Cond.castable k nm).before a U = true
def px_nc (G : px_Cg) (k nm : String) : Prop := ∀ (a : Array Value) (U : State), G.S0.WarmedH U.vm → (Cond.not (.castable k nm)).before a U = true
/-- the row of the table that catches k thrown at pc, and its handler -/
def px_row (G : px_Cg) (own : String) (pc : Nat) (k : String) (hs : List (Nat × Nat × Nat × Nat)) (hpc : Nat) : Prop := ∃ (pre : List ExceptionTableEntry) (x : ExceptionTableEntry) (rest : List ExceptionTableEntry) (name : String), tableOf hs = pre ++ x :: rest ∧ covers x pc = true ∧ x.handlerPc = hpc ∧ x.catchType ≠ 0 ∧ Cond.classLink own x.catchType name ∈ G.Ts ∧ px_ca G k name ∧ ∀ y ∈ pre, ∃ nm, y.catchType ≠ 0 ∧ Cond.classLink own y.catchType nm ∈ G.Ts ∧ px_nc G k nm
section PGH
variable {Γ : px_Cm} {G : px_Cg} {K : Option Value ⊕ String → px_H → Prop} {Q : State → Prop} {cc : ByteArray} {own : String} {w w1 w2 : Bool} {nc ns pc q : Nat} {ls : List (Option Value)} {st : List Value} {π : px_H}
theorem pg_iretH (X : px_X Γ G cc own) {ty : FieldType} {hs : List (Nat × Nat × Nat × Nat)} (Y : px_YH Γ (some ty) hs) {v : Int32} (hd : px_D cc pc .ireturn 1 q) (hn : narrow ty (.int v) = .int v) (hw1 : w1 = true → w = true) (h1 : nc ≤ Γ.R.cells) (h2 : ns ≤ Γ.R.slots) (hK : K (.inl (some (.int v))) π) : px_G Γ G (px_Q Γ G w K) w1 nc ns pc ls [.int v] π := by
  intro H lsA locs hL hM hl
  exact px_Wm (fun t h => px_MQ.of h) (W.widen h1 h2 (W.zret X.1 X.2.1 Y.1 hn (Qc := px_Qc G K) (free := px_fr G w) (fun t ht hW => ⟨.inl (some (.int v)), π, rfl, hK, State.WarmedH.trans X.2.2.2.1 hW, by rw [ht]; exact hM⟩) (fun q hq => ⟨hw1 (hl q hq).1, (hl q hq).2⟩) hd.1 Y.2.1))
theorem px_afterH (X : px_X Γ G cc own) {ret : Option FieldType} {hs : List (Nat × Nat × Nat × Nat)} (Y : px_YH Γ ret hs) {mc ms : Nat} {K' : Option Value ⊕ String → px_H → Prop} {H : Heap} {lsA : Array Slot} {locs : List Loc} {st0 : List Value} (hL : px_L Γ.c.maxLocals ls lsA) (hw : w2 = true → w1 = true) (hl : ∀ q ∈ locs, px_fr G w1 q.base)
    (hr : px_Run Γ H locs nc ns mc ms (F0 Γ.m pc lsA st0) st (fun o t => px_Qc G K' #[] Γ.s o t) (px_fr G w2))
    (kr : ∀ v π', K' (.inl v) π' → px_G Γ G Q w1 (nc + mc) (ns + ms) (pc + 3) ls (v.toList ++ st) π') (kt : ∀ k π', K' (.inr k) π' → ∃ hpc, px_row G own pc k hs hpc ∧ ∀ a, px_G Γ G Q w1 (nc + mc) (ns + ms) hpc ls [.ref a] π') : W Γ.p Γ.l Γ.e Γ.R Γ.s Γ.m Γ.args Γ.below Γ.meth Γ.c H locs nc ns Q (F0 Γ.m pc lsA st0) := by
  intro T hT S
  obtain ⟨o, t, T', L, S', hLf, e1, e2, ⟨r, π', hO, hK, hW, hM⟩, hgo⟩ := hr T hT S
  have hl' : ∀ q ∈ locs ++ L, px_fr G w1 q.base := fun q hq => by
    rcases List.mem_append.mp hq with h | h
    · exact hl q h
    · exact ⟨hw (hLf q h).1, (hLf q h).2⟩
  cases r with
  | inl v =>
    have ho : o = .returned v := hO
    subst ho
    obtain ⟨t2, a1, b1⟩ := kr v π' hK T'.heap lsA (locs ++ L) hL (by rw [e1]; exact hM) hl' T' rfl S'
    exact ⟨t2, hgo t2 a1, b1⟩
  | inr k =>
    obtain ⟨x, cell, rfl, hx1, hx2, hx3⟩ := hO
    obtain ⟨hpc, ⟨pre, row, rest, name, r1, r2, r3, r4, r5, r6, r7⟩, hG⟩ := kt k π' hK
    subst r3
    have hcls : Γ.s.vm.findClass k = some cell.cls := by
      rw [← S'.warmed.alike.findClass, e2]
      exact hx3
    have hpl : Γ.e.platform.magicAccessors = ({} : Platform).magicAccessors := by rw [S'.admits.platform]
    obtain ⟨c3, cT, hc3, hcT, hasg⟩ := Cond.castable_spec (r6 Γ.args Γ.s X.2.2.2.1)
    cases hcls.symm.trans hc3
    obtain ⟨c4, hc4, hlk⟩ := Cond.classLink_spec X.2.2.1 (X.word r5) Γ.e.platform hpl
    cases hcT.symm.trans hc4
    obtain ⟨vm', hW', hfi⟩ := ph_find (e := Γ.e) (s := Γ.s) (f := { F0 Γ.m pc lsA st0 with stack := st }) (a := x) (cell := cell) (rest := rest) (by rw [hx2]; rfl) (Vm.classAt_of_findClass hcls) r2 r4 hlk hasg pre ((T'.setTop { F0 Γ.m pc lsA st0 with stack := st }).pushFrame (.throwing x)) S'.warmed (by rw [← e1] at hx1; exact hx1)
      (fun y hy => by
        obtain ⟨nm, n1, n2, n3⟩ := r7 y hy
        obtain ⟨c5, hc5, hlk5⟩ := Cond.classLink_spec X.2.2.1 (X.word n2) Γ.e.platform hpl
        have hv := n3 Γ.args Γ.s X.2.2.2.1
        refine ⟨n1, c5, hlk5, ?_⟩
        simpa [Cond.before, Cond.holds, Cond.value, hcls, hc5] using hv)
    obtain ⟨t2, a1, b1⟩ := hG x T'.heap lsA (locs ++ L) hL (by rw [e1]; exact hM) hl' (T'.setVm vm') rfl (S'.noted hW')
    refine ⟨t2, hgo t2 (ph_goes S' rfl (fun Q E d acts => ?_) a1), b1⟩
    rw [W.findHandler_eq (meth := Γ.meth) (code := Γ.c) S'.method' S'.code, Y.2.2, r1]
    exact hfi Q E d acts
/-- a call in a method with handlers -/
abbrev px_KH (Γ : px_Cm) (G : px_Cg) (Q : State → Prop) (own : String) (hs : List (Nat × Nat × Nat × Nat)) (w1 : Bool) (nc ns pc q : Nat) (ls : List (Option Value)) (st : List Value) : Option Value ⊕ String → px_H → Prop := fun r π' => match r with
  | .inl (some v) => px_G Γ G Q w1 nc ns q ls (v :: st) π'
  | .inl none => px_G Γ G Q w1 nc ns q ls st π'
  | .inr k => ∃ hpc, px_row G own pc k hs hpc ∧ ∀ a, px_G Γ G Q w1 nc ns hpc ls [.ref a] π'
theorem px_KH.r {hs : List (Nat × Nat × Nat × Nat)} {v : Option Value} {π' : px_H} (h : px_KH Γ G Q own hs w1 nc ns pc q ls st (.inl v) π') : px_G Γ G Q w1 nc ns q ls (v.toList ++ st) π' := by
  cases v <;> exact h
theorem pc_VH (X : px_X Γ G cc own) {ret0 : Option FieldType} {hs : List (Nat × Nat × Nat × Nat)} (Y : px_YH Γ ret0 hs) {y : MethodName} {bytes : ByteArray} {maxL n index ci : Nat} {ret : Option FieldType} {rm : Room} {b : Nat} {As st0 : List Value} {fs : List Value}
    (hd : px_D cc pc (.invokevirtual index) 3 q) (cw : px_CW G.Ts own index y bytes maxL ret n) (hin : Cond.instanceMethod y ∈ G.Ts) (hse : Cond.selects y.cls y y ∈ G.Ts) (hci : ∀ r, G.cl[ci]? = some r → r.1 = y.cls) (hn : As.length = n) (hst0 : st0 = As.reverse ++ .ref b :: st) (hWd : (st.map fun v => v.category).sum ≤ 8)
    (hfit : px_fit Γ.R rm maxL) (hw : w2 = true → w1 = true) (h1 : nc + rm.cells ≤ Γ.R.cells) (h2 : ns + rm.slots ≤ Γ.R.slots) (hob : px_rd G.ρ π b (.inr (ci, fs)))
    (hP : px_P Γ.l G y bytes maxL ret rm w2 (.ref b :: As) π (px_KH Γ G Q own hs w1 (nc + rm.cells) (ns + rm.slots) pc q ls st)) : px_G Γ G Q w1 nc ns pc ls st0 π := by
  obtain ⟨hd, rfl⟩ := hd
  intro H lsA locs hL hM hl
  refine px_afterH X Y hL hw hl (px_runV X hP hM cw hin (X.word hse) hfit ?_ rfl hn hL.1 hst0 (lv_room hWd) hd ⟨h1, h2⟩) (fun v π' h => px_KH.r h) (fun k π' h => h)
  obtain ⟨r, g1, -, cell, g2, g3, g4, -⟩ := X.rd hM hob
  refine ⟨cell, g2, by rw [g4]; rfl, ?_⟩
  rw [g3, ← hci r g1]
  exact (X.K.1 ci r g1).2.1
end PGH
section PGCH
variable {p : Program} {l : Launch} {e : Env} {R : Room} {s : State} {m : MethodId} {args : Array Value} {below : List Frame} {meth : Method} {c : Code} {U : State} {Ls : List Loc} {c0 s0 : Nat}
theorem px_backH {y : MethodName} {ws : List Cond} {rm : Room} {Pc : Array Value → State → Prop} {Qc : Array Value → State → Outcome → State → Prop} {mc ms : Nat} {free : Addr → Prop} {bytes : ByteArray} {maxL : Nat} {ret : Option FieldType} {hs : List (Nat × Nat × Nat × Nat)} {Wd len : Nat} {ig : Instr}
    (hM : px_Met l y ws rm Pc Qc mc ms free) (hrc : rm.cells = mc) (hrs : rm.slots = ms) (X : Stand p l e R s m args below meth c U Ls c0 s0) {g : JFrame} (hg : g.method = m) (hsize : g.locals.size = c.maxLocals) (hdg : decode c.code g.pc = .ok (ig, len))
    (hWd : 2 * g.monitorRoom + (g.stack.map fun v => v.category).sum ≤ Wd) (hframes : rm.frames + 1 ≤ R.frames) (hlocals : Wd + (maxL + 11) + rm.locals ≤ R.locals) {mk : MethodId} (hn : U.methodNamed? y = some mk) {a : Array Value} (hws : (allAtoms ws).before a U = true)
    (hcode : (Cond.codeWith y bytes maxL ret hs).before a U = true) (hini : (Cond.initialized y.cls).before a U = true) (hcc : c0 + mc ≤ R.cells) (hcs : s0 + ms ≤ R.slots) (hP : Pc a (U.calling g mk a)) :
    ∃ (o : Outcome) (t B : State) (L : List Loc), Stand p l e R s m args below meth c B (Ls ++ L) (c0 + mc) (s0 + ms) ∧ B.heap = t.heap ∧ B.vm = t.vm ∧ (∀ q ∈ L, free q.base) ∧ Qc a (U.calling g mk a) o t ∧
      Steps p.tables e below (doInvoke e (U.setTop g) [] mk a).1 (match o with | .returned v => B.setTop { g with pc := g.pc + len, stack := v.toList ++ g.stack } | .threw x => (B.setTop g).pushFrame (.throwing x)) := by
  obtain ⟨mk', methY, cY, hn', hmY, hcY, -, hlY, -, -, -, -⟩ := Cond.codeWith_spec hcode
  cases hn.symm.trans hn'
  obtain ⟨kY, hkY, -⟩ := className_of_methodNamed hn
  have hinitY : kY.init = .initialized := Cond.initialized_spec (findClass_of_methodNamed hn) hkY hini
  have h : At U g.method c below := by rw [hg]; exact X.here
  have happ : (headSpec ws rm).appliesLoose y e.platform (U.calling g mk a) = true :=
    Spec.appliesLoose_calling (g := g) h hdg hn hkY hinitY
      (X.room_calling (g := g) (R' := rm) hsize hmY hcY hframes (by rw [hlY]; omega) (by rw [hrc]; exact hcc) (by rw [hrs]; exact hcs)) hws
  obtain ⟨mid, hmid⟩ := h.above
  have hfr : (U.setTop g).frames = (.java g :: mid) ++ below := by rw [State.frames_setTop' g h.top, hmid]; rfl
  obtain ⟨o, s₂, hsteps, -, hend, hq⟩ := Steps.callFree hM p X.admits X.cas X.clock (acts := []) hfr happ hP trivial
  have hq' : Qc a (U.calling g mk a) o s₂ ∧ ∃ L, px_FX (U.calling g mk a) s₂ L mc ms ∧ ∀ q ∈ L, free q.base := hq
  rw [State.frames_setTop' g h.top] at hend
  obtain ⟨hq1, L, ⟨hW₂, e2, q2, q3, q4, q5, q6⟩, hL⟩ := hq'
  have e3 : s₂ = ({ (U.calling g mk a).setFrames s₂.frames with heap := s₂.heap, slotsUsed := s₂.slotsUsed } : State).setVm s₂.vm := by
    have : s₂ = ({ s₂ with vm := (U.calling g mk a).vm } : State).setVm s₂.vm := rfl
    rw [e2] at this
    exact this
  have hW' : U.WarmedH s₂.vm := hW₂
  obtain ⟨g₀, hg0⟩ := Option.isSome_iff_exists.mp h.top
  obtain ⟨r, hr⟩ := State.topJava?_eq_some.mp hg0
  have hr' : (({ U with heap := s₂.heap, slotsUsed := s₂.slotsUsed } : State).setVm s₂.vm).frames = .java g₀ :: r := hr
  have hsame : U.sameButNew ({ U with heap := s₂.heap, slotsUsed := s₂.slotsUsed } : State) L mc ms := by
    refine ⟨?_, q2, q3, q4, q5, q6⟩
    obtain ⟨t, ht, -⟩ := State.frames_cons hr
    show ({ U with heap := s₂.heap, slotsUsed := s₂.slotsUsed } : State) = { U.setFrames U.frames with heap := s₂.heap, slotsUsed := s₂.slotsUsed }
    rw [State.setFrames_self ht]
  refine ⟨o, s₂, (({ U with heap := s₂.heap, slotsUsed := s₂.slotsUsed } : State).setVm s₂.vm), L,
    ⟨X.admits, X.cas, X.clock, X.frames, X.room, X.hears, X.method, X.code, (X.here.setHeapUsed s₂.heap s₂.slotsUsed).setVm hW'.alike, X.tail, State.WarmedH.trans X.warmed hW', X.limits, X.bytes, X.same.trans (hsame.setVm s.vm)⟩, rfl, rfl, hL, hq1, ?_⟩
  cases o with
  | returned v =>
    obtain ⟨c₂, i₂, len₂, hc₂, hd₂, hf₂⟩ := hend
    have hcc : c₂ = c := by
      have h1 : s₂.code? g.method = U.code? g.method := by
        rw [State.code?_eq, State.code?_eq, hW'.alike.method?]
      exact Option.some.inj (hc₂.symm.trans (h1.trans h.code))
    subst hcc
    have hlen : len₂ = len := by rw [hdg] at hd₂; cases hd₂; rfl
    subst hlen
    have hs₂ : s₂ = (({ U with heap := s₂.heap, slotsUsed := s₂.slotsUsed } : State).setVm s₂.vm).setTop { g with pc := g.pc + len₂, stack := v.toList ++ g.stack } := by
      refine e3.trans ?_
      rw [hf₂, State.calling_eq h.top, State.setFrames_setFrames, State.setTop_of_frames _ hr', hr]
      rfl
    show Steps p.tables e below _ ((({ U with heap := s₂.heap, slotsUsed := s₂.slotsUsed } : State).setVm s₂.vm).setTop { g with pc := g.pc + len₂, stack := v.toList ++ g.stack })
    rw [← hs₂]
    exact hsteps
  | threw x =>
    have hf₂ : s₂.frames = .throwing x :: (.java g :: U.frames.tail) := hend
    have hs₂ : s₂ = ((({ U with heap := s₂.heap, slotsUsed := s₂.slotsUsed } : State).setVm s₂.vm).setTop g).pushFrame (.throwing x) := by
      refine e3.trans ?_
      rw [State.pushFrame, State.frames_setTop _ hr', State.setTop_of_frames _ hr', State.setFrames_setFrames, hf₂, State.calling_eq h.top, State.setFrames_setFrames, hr]
      rfl
    show Steps p.tables e below _ (((({ U with heap := s₂.heap, slotsUsed := s₂.slotsUsed } : State).setVm s₂.vm).setTop g).pushFrame (.throwing x))
    rw [← hs₂]
    exact hsteps
end PGCH
section PGIH
variable {Γ : px_Cm} {G : px_Cg} {K : Option Value ⊕ String → px_H → Prop} {Q : State → Prop} {cc : ByteArray} {own : String} {w w1 w2 : Bool} {nc ns pc q : Nat} {ls : List (Option Value)} {st : List Value} {π : px_H}
def px_CWH (Ts : List Cond) (own : String) (index : Nat) (y : MethodName) (cc : ByteArray) (maxL : Nat) (ret : Option FieldType) (hs : List (Nat × Nat × Nat × Nat)) (n : Nat) : Prop :=
  (Cond.methodLink own index y ∈ Ts ∨ ∃ host, Cond.methodLinkNest own index y host ∈ Ts) ∧ Cond.codeWith y cc maxL ret hs ∈ Ts ∧ Cond.initialized y.cls ∈ Ts ∧ (y.cls ≠ "java/lang/invoke/MethodHandle" ∧ y.cls ≠ "java/lang/invoke/VarHandle") ∧ (parseMethodDescriptor y.desc).map (fun d => d.parameters.length) = some n
theorem px_runSH (X : px_X Γ G cc own) {y : MethodName} {bytes : ByteArray} {maxL n index : Nat} {ret : Option FieldType} {hs : List (Nat × Nat × Nat × Nat)} {rm : Room} {As rest : List Value} {K' : Option Value ⊕ String → px_H → Prop} {H : Heap} {locs : List Loc} {g : JFrame}
    (hP : px_PH Γ.l G y bytes maxL ret hs rm w2 As π K') (hM : px_M G.S0 G.D G.cl G.z0 π H) (cw : px_CWH G.Ts own index y bytes maxL ret hs n) (hst : Cond.static y ∈ G.Ts) (hfit : px_fit Γ.R rm maxL)
    (hg : g.method = Γ.m) (hn : As.length = n) (hsize : g.locals.size = Γ.c.maxLocals) (hstack : g.stack = As.reverse ++ rest) (hWd : 2 * g.monitorRoom + (rest.map fun v => v.category).sum ≤ 8) (hdg : decode cc g.pc = .ok (.invokestatic index, 3)) (hf : nc + rm.cells ≤ Γ.R.cells ∧ ns + rm.slots ≤ Γ.R.slots) :
    px_Run Γ H locs nc ns rm.cells rm.slots g rest (fun o t => px_Qc G K' #[] Γ.s o t) (px_fr G w2) := by
  obtain ⟨hlink, hcode, hini, hy, hlen⟩ := cw
  have hlen : ∀ sig, parseMethodDescriptor y.desc = some sig → As.length = sig.parameters.length := fun sig h => by
    rw [h] at hlen
    simp at hlen
    rw [hn, hlen]
  intro T hT S
  obtain ⟨mk, methM, cM, hnamed, hmethM, -, -, -, -, -, -, hsigM⟩ := Cond.codeWith_spec (X.word hcode)
  have hstatic : methM.isStatic = true := Cond.static_spec hnamed hmethM (X.word hst)
  obtain ⟨kP, hkP, -⟩ := className_of_methodNamed hnamed
  have hinitP : kP.init = .initialized := Cond.initialized_spec (findClass_of_methodNamed hnamed) hkP (X.word hini)
  have hb := X.2.1
  have hdg' : decode Γ.c.code g.pc = .ok (.invokestatic index, 3) := by rw [hb]; exact hdg
  have main : ∀ vm₁, Stand Γ.p Γ.l Γ.e Γ.R Γ.s Γ.m Γ.args Γ.below Γ.meth Γ.c (T.setVm vm₁) locs nc ns → (∀ target, (∀ acts, Steps Γ.p.tables Γ.e Γ.below (doInvoke Γ.e ((T.setVm vm₁).setTop { g with stack := rest }) acts mk As.toArray).1 target) → Steps Γ.p.tables Γ.e Γ.below (T.setTop g) target) →
      ∃ (o : Outcome) (t T' : State) (L : List Loc), Stand Γ.p Γ.l Γ.e Γ.R Γ.s Γ.m Γ.args Γ.below Γ.meth Γ.c T' (locs ++ L) (nc + rm.cells) (ns + rm.slots) ∧ (∀ q ∈ L, px_fr G w2 q.base) ∧ T'.heap = t.heap ∧ T'.vm = t.vm ∧ px_Qc G K' #[] Γ.s o t ∧
        ∀ target, Steps Γ.p.tables Γ.e Γ.below (match o with | .returned v => T'.setTop { g with pc := g.pc + 3, stack := v.toList ++ rest } | .threw x => (T'.setTop { g with stack := rest }).pushFrame (.throwing x)) target → Steps Γ.p.tables Γ.e Γ.below (T.setTop g) target := by
    intro vm₁ X₁ hstep₁
    have hWd' : 2 * ({ g with stack := rest } : JFrame).monitorRoom + (({ g with stack := rest } : JFrame).stack.map fun v => v.category).sum ≤ 8 := hWd
    have hw2 : G.S0.WarmedH (T.setVm vm₁).vm := State.WarmedH.trans X.2.2.2.1 X₁.warmed
    obtain ⟨o, t, B, L, X', e1, e2, hL, hq, hsteps⟩ := px_backH (bytes := bytes) (maxL := maxL) (ret := ret) (hs := hs) (len := 3) (ig := .invokestatic index) hP rfl rfl X₁ (g := { g with stack := rest }) hg hsize hdg' hWd' hfit.1 hfit.2 (X₁.named hnamed) (a := As.toArray)
      (atoms_intro fun w hw => by rw [List.mem_singleton.mp hw]; exact px_word X.2.2.2.2 hw2 _ hcode) (px_word X.2.2.2.2 hw2 _ hcode) (px_word X.2.2.2.2 hw2 _ hini) hf.1 hf.2 (px_pre X hM (av := As) (U := T.setVm vm₁) hT X₁.warmed _ _)
    refine ⟨o, t, B, L, X', hL, e1, e2, hq, fun target h => hstep₁ _ fun acts => ?_⟩
    rw [doInvoke_state]
    refine hsteps.trans ?_
    cases o <;> exact h
  rcases hlink with hlink | ⟨host, hlink⟩
  · obtain ⟨vm₁, X₁, hstep₁⟩ := S.invokestatic X.1 X.2.2.1 (X.word hlink) hnamed hmethM hstatic hkP hinitP hy (g := g) hg (argsL := As) (rest := rest) (hlen _ hsigM) hstack hdg'
    exact main vm₁ X₁ hstep₁
  · obtain ⟨vm₁, X₁, hstep₁⟩ := S.invokestaticNest X.1 X.2.2.1 (X.word hlink) hnamed hmethM hstatic hkP hinitP hy (g := g) hg (argsL := As) (rest := rest) (hlen _ hsigM) hstack hdg'
    exact main vm₁ X₁ hstep₁
theorem pc_SH (X : px_X Γ G cc own) {ret0 : Option FieldType} (Y : px_Y Γ ret0) {y : MethodName} {bytes : ByteArray} {maxL n index : Nat} {ret : Option FieldType} {hs : List (Nat × Nat × Nat × Nat)} {rm : Room} {As st0 : List Value}
    (hd : px_D cc pc (.invokestatic index) 3 q) (cw : px_CWH G.Ts own index y bytes maxL ret hs n) (hst : Cond.static y ∈ G.Ts) (hn : As.length = n) (hst0 : st0 = As.reverse ++ st) (hWd : (st.map fun v => v.category).sum ≤ 8)
    (hfit : px_fit Γ.R rm maxL) (hw : w2 = true → w1 = true) (hw1 : w1 = true → w = true) (h1 : nc + rm.cells ≤ Γ.R.cells) (h2 : ns + rm.slots ≤ Γ.R.slots)
    (hP : px_PH Γ.l G y bytes maxL ret hs rm w2 As π (px_K Γ G w K w1 (nc + rm.cells) (ns + rm.slots) q ls st)) : px_G Γ G (px_Q Γ G w K) w1 nc ns pc ls st0 π := by
  obtain ⟨hd, rfl⟩ := hd
  intro H lsA locs hL hM hl
  exact px_after X Y hL hw hw1 hl h1 h2 (px_runSH X hP hM cw hst hfit rfl hn hL.1 hst0 (lv_room hWd) hd ⟨h1, h2⟩) (fun v π' h => px_K.r h) (fun k π' h => h)
/-- room that is not used -/
theorem pg_room {nc' ns' : Nat} (h1 : nc ≤ nc') (h2 : ns ≤ ns') (kk : px_G Γ G Q w1 nc' ns' pc ls st π) : px_G Γ G Q w1 nc ns pc ls st π := by
  intro H lsA locs hL hM hl T hT S
  exact kk H lsA locs hL hM hl T hT (stand_widen S h1 h2)
end PGIH
