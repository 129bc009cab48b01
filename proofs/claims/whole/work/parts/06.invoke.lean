/-! INVOKE AND RETURN over px_G -/
/-- what the machine gives at a call: the outcome o, and how it goes on -/
def px_Run (Γ : px_Cm) (H : Heap) (locs : List Loc) (nc ns mc ms : Nat) (g : JFrame) (rest : List Value) (Qa : Outcome → State → Prop) (free : Addr → Prop) : Prop :=
  ∀ T : State, T.heap = H → Stand Γ.p Γ.l Γ.e Γ.R Γ.s Γ.m Γ.args Γ.below Γ.meth Γ.c T locs nc ns → ∃ (o : Outcome) (t T' : State) (L : List Loc), Stand Γ.p Γ.l Γ.e Γ.R Γ.s Γ.m Γ.args Γ.below Γ.meth Γ.c T' (locs ++ L) (nc + mc) (ns + ms) ∧ (∀ q ∈ L, free q.base) ∧ T'.heap = t.heap ∧ T'.vm = t.vm ∧ Qa o t ∧
    ∀ target, Steps Γ.p.tables Γ.e Γ.below (match o with | .returned v => T'.setTop { g with pc := g.pc + 3, stack := v.toList ++ rest } | .threw x => (T'.setTop { g with stack := rest }).pushFrame (.throwing x)) target → Steps Γ.p.tables Γ.e Γ.below (T.setTop g) target
section PGI
variable {Γ : px_Cm} {G : px_Cg} {K : Option Value ⊕ String → px_H → Prop} {Q : State → Prop} {cc : ByteArray} {own : String} {w w1 w2 : Bool} {nc ns pc q : Nat} {ls : List (Option Value)} {st : List Value} {π : px_H}
/-- the words of a call of y at pool place index -/
def px_CW (Ts : List Cond) (own : String) (index : Nat) (y : MethodName) (cc : ByteArray) (maxL : Nat) (ret : Option FieldType) (n : Nat) : Prop :=
  (Cond.methodLink own index y ∈ Ts ∨ ∃ host, Cond.methodLinkNest own index y host ∈ Ts) ∧ Cond.code y cc maxL ret ∈ Ts ∧ Cond.initialized y.cls ∈ Ts ∧ (y.cls ≠ "java/lang/invoke/MethodHandle" ∧ y.cls ≠ "java/lang/invoke/VarHandle") ∧ (parseMethodDescriptor y.desc).map (fun d => d.parameters.length) = some n
def px_fit (R rm : Room) (maxL : Nat) : Prop := rm.frames + 1 ≤ R.frames ∧ 8 + (maxL + 11) + rm.locals ≤ R.locals
theorem px_pre (X : px_X Γ G cc own) {H : Heap} (hM : px_M G.S0 G.D G.cl G.z0 π H) {av : List Value} {U : State} (hU : U.heap = H) (hW : Γ.s.WarmedH U.vm) (g : JFrame) (mk : MethodId) : va_Pc av (fun U => px_W G.S0 G.D G.cl G.z0 π U) av.toArray (U.calling g mk av.toArray) := by
  refine ⟨rfl, State.WarmedH.trans X.2.2.2.1 hW, ?_⟩
  show px_M G.S0 G.D G.cl G.z0 π U.heap
  rw [hU]
  exact hM
theorem px_runV (X : px_X Γ G cc own) {y : MethodName} {bytes : ByteArray} {maxL n index : Nat} {ret : Option FieldType} {rm : Room} {b : Nat} {As rest : List Value} {K' : Option Value ⊕ String → px_H → Prop} {H : Heap} {locs : List Loc} {g : JFrame}
    (hP : px_P Γ.l G y bytes maxL ret rm w2 (.ref b :: As) π K') (hM : px_M G.S0 G.D G.cl G.z0 π H) (cw : px_CW G.Ts own index y bytes maxL ret n) (hin : Cond.instanceMethod y ∈ G.Ts) (hse : (Cond.selects y.cls y y).before Γ.args Γ.s = true) (hfit : px_fit Γ.R rm maxL)
    (hob : ∃ cellB : Cell, H[b]? = some cellB ∧ cellB.vm.isStatics = false ∧ Γ.s.vm.findClass y.cls = some cellB.cls)
    (hg : g.method = Γ.m) (hn : As.length = n) (hsize : g.locals.size = Γ.c.maxLocals) (hstack : g.stack = As.reverse ++ .ref b :: rest) (hWd : 2 * g.monitorRoom + (rest.map fun v => v.category).sum ≤ 8) (hdg : decode cc g.pc = .ok (.invokevirtual index, 3)) (hf : nc + rm.cells ≤ Γ.R.cells ∧ ns + rm.slots ≤ Γ.R.slots) :
    px_Run Γ H locs nc ns rm.cells rm.slots g rest (fun o t => px_Qc G K' #[] Γ.s o t) (px_fr G w2) := by
  obtain ⟨hlink, hcode, hini, hy, hlen⟩ := cw
  obtain ⟨cellB, hcell, hobj, hcls⟩ := hob
  have hlen : ∀ sig, parseMethodDescriptor y.desc = some sig → As.length = sig.parameters.length := fun sig h => by
    rw [h] at hlen
    simp at hlen
    rw [hn, hlen]
  intro T hT S
  obtain ⟨mk, methM, hnamed, hmethM, hstM, habM⟩ := Cond.instanceMethod_spec (X.word hin)
  obtain ⟨methM', cM, hmethM', -, -, -, -, -, -, hsigM⟩ := Cond.code_spec hnamed (X.word hcode)
  cases hmethM.symm.trans hmethM'
  obtain ⟨c2, r2, m2, q1, q2, q3, q4, kP, hkP, hkPi⟩ := Cond.selects_spec hse
  cases hcls.symm.trans q1
  cases (State.methodFound?_of_named hnamed hy).symm.trans q2
  cases hnamed.symm.trans q3
  have hselP : selectMethod Γ.e.platform Γ.s.vm cellB.cls mk = .method mk := by rw [Launch.admits_selectMethod S.admits]; exact q4
  have hb := X.2.1
  have hdg' : decode Γ.c.code g.pc = .ok (.invokevirtual index, 3) := by rw [hb]; exact hdg
  have main : ∀ vm₁, Stand Γ.p Γ.l Γ.e Γ.R Γ.s Γ.m Γ.args Γ.below Γ.meth Γ.c (T.setVm vm₁) locs nc ns → (∀ target, (∀ acts, Steps Γ.p.tables Γ.e Γ.below (doInvoke Γ.e ((T.setVm vm₁).setTop { g with stack := rest }) acts mk (Value.ref b :: As).toArray).1 target) → Steps Γ.p.tables Γ.e Γ.below (T.setTop g) target) →
      ∃ (o : Outcome) (t T' : State) (L : List Loc), Stand Γ.p Γ.l Γ.e Γ.R Γ.s Γ.m Γ.args Γ.below Γ.meth Γ.c T' (locs ++ L) (nc + rm.cells) (ns + rm.slots) ∧ (∀ q ∈ L, px_fr G w2 q.base) ∧ T'.heap = t.heap ∧ T'.vm = t.vm ∧ px_Qc G K' #[] Γ.s o t ∧
        ∀ target, Steps Γ.p.tables Γ.e Γ.below (match o with | .returned v => T'.setTop { g with pc := g.pc + 3, stack := v.toList ++ rest } | .threw x => (T'.setTop { g with stack := rest }).pushFrame (.throwing x)) target → Steps Γ.p.tables Γ.e Γ.below (T.setTop g) target := by
    intro vm₁ X₁ hstep₁
    have hWd' : 2 * ({ g with stack := rest } : JFrame).monitorRoom + (({ g with stack := rest } : JFrame).stack.map fun v => v.category).sum ≤ 8 := hWd
    have hw2 : G.S0.WarmedH (T.setVm vm₁).vm := State.WarmedH.trans X.2.2.2.1 X₁.warmed
    obtain ⟨o, t, B, L, X', e1, e2, hL, hq, hsteps⟩ := px_back (bytes := bytes) (maxL := maxL) (ret := ret) (len := 3) (ig := .invokevirtual index) hP rfl rfl X₁ (g := { g with stack := rest }) hg hsize hdg' hWd' hfit.1 hfit.2 (X₁.named hnamed) (a := (Value.ref b :: As).toArray)
      (atoms_intro fun w hw => by rw [List.mem_singleton.mp hw]; exact px_word X.2.2.2.2 hw2 _ hcode) (px_word X.2.2.2.2 hw2 _ hcode) (px_word X.2.2.2.2 hw2 _ hini) hf.1 hf.2 (px_pre X hM (av := .ref b :: As) (U := T.setVm vm₁) hT X₁.warmed _ _)
    refine ⟨o, t, B, L, X', hL, e1, e2, hq, fun target h => hstep₁ _ fun acts => ?_⟩
    rw [doInvoke_state]
    refine hsteps.trans ?_
    cases o <;> exact h
  rcases hlink with hlink | ⟨host, hlink⟩
  · obtain ⟨vm₁, X₁, hstep₁⟩ := S.invokevirtual X.1 X.2.2.1 (X.word hlink) hnamed hmethM hstM hkP hkPi hy (a := b) (cell := cellB) (by rw [hT]; exact hcell)
      (fun z h => by rw [h] at hobj; cases hobj) hselP hmethM habM hkP hkPi (g := g) hg (argsL := As) (rest := rest) (hlen _ hsigM) hstack hdg'
    exact main vm₁ X₁ hstep₁
  · obtain ⟨vm₁, X₁, hstep₁⟩ := S.invokevirtualNest X.1 X.2.2.1 (X.word hlink) hnamed hmethM hstM hkP hkPi hy (a := b) (cell := cellB) (by rw [hT]; exact hcell)
      (fun z h => by rw [h] at hobj; cases hobj) hselP hmethM habM hkP hkPi (g := g) hg (argsL := As) (rest := rest) (hlen _ hsigM) hstack hdg'
    exact main vm₁ X₁ hstep₁
theorem px_runS (X : px_X Γ G cc own) {y : MethodName} {bytes : ByteArray} {maxL n index : Nat} {ret : Option FieldType} {rm : Room} {As rest : List Value} {K' : Option Value ⊕ String → px_H → Prop} {H : Heap} {locs : List Loc} {g : JFrame}
    (hP : px_P Γ.l G y bytes maxL ret rm w2 As π K') (hM : px_M G.S0 G.D G.cl G.z0 π H) (cw : px_CW G.Ts own index y bytes maxL ret n) (hst : Cond.static y ∈ G.Ts) (hfit : px_fit Γ.R rm maxL)
    (hg : g.method = Γ.m) (hn : As.length = n) (hsize : g.locals.size = Γ.c.maxLocals) (hstack : g.stack = As.reverse ++ rest) (hWd : 2 * g.monitorRoom + (rest.map fun v => v.category).sum ≤ 8) (hdg : decode cc g.pc = .ok (.invokestatic index, 3)) (hf : nc + rm.cells ≤ Γ.R.cells ∧ ns + rm.slots ≤ Γ.R.slots) :
    px_Run Γ H locs nc ns rm.cells rm.slots g rest (fun o t => px_Qc G K' #[] Γ.s o t) (px_fr G w2) := by
  obtain ⟨hlink, hcode, hini, hy, hlen⟩ := cw
  have hlen : ∀ sig, parseMethodDescriptor y.desc = some sig → As.length = sig.parameters.length := fun sig h => by
    rw [h] at hlen
    simp at hlen
    rw [hn, hlen]
  intro T hT S
  obtain ⟨mk, hnamed⟩ := Cond.code_named (X.word hcode)
  obtain ⟨methM, cM, hmethM, -, -, -, -, -, -, hsigM⟩ := Cond.code_spec hnamed (X.word hcode)
  have hstatic : methM.isStatic = true := Cond.static_spec hnamed hmethM (X.word hst)
  obtain ⟨kP, hkP, -⟩ := className_of_methodNamed hnamed
  have hinitP : kP.init = .initialized := Cond.initialized_spec (findClass_of_methodNamed hnamed) hkP (X.word hini)
  have hb := X.2.1
  have hdg' : decode Γ.c.code g.pc = .ok (.invokestatic index, 3) := by rw [hb]; exact hdg
  have main : ∀ vm₁, Stand Γ.p Γ.l Γ.e Γ.R Γ.s Γ.m Γ.args Γ.below Γ.meth Γ.c (T.setVm vm₁) locs nc ns → (∀ target, (∀ acts, Steps Γ.p.tables Γ.e Γ.below (doInvoke Γ.e ((T.setVm vm₁).setTop { g with stack := rest }) acts mk As.toArray).1 target) → Steps Γ.p.tables Γ.e Γ.below (T.setTop g) target) →
      ∃ (o : Outcome) (t T' : State) (L : List Loc), Stand Γ.p Γ.l Γ.e Γ.R Γ.s Γ.m Γ.args Γ.below Γ.meth Γ.c T' (locs ++ L) (nc + rm.cells) (ns + rm.slots) ∧ (∀ q ∈ L, px_fr G w2 q.base) ∧ T'.heap = t.heap ∧ T'.vm = t.vm ∧ px_Qc G K' #[] Γ.s o t ∧
        ∀ target, Steps Γ.p.tables Γ.e Γ.below (match o with | .returned v => T'.setTop { g with pc := g.pc + 3, stack := v.toList ++ rest } | .threw x => (T'.setTop { g with stack := rest }).pushFrame (.throwing x)) target → Steps Γ.p.tables Γ.e Γ.below (T.setTop g) target := by
    intro vm₁ X₁ hstep₁
    have hWd' : 2 * ({ g with stack := rest } : JFrame).monitorRoom + (({ g with stack := rest } : JFrame).stack.map fun v => v.category).sum ≤ 8 := hWd
    have hw2 : G.S0.WarmedH (T.setVm vm₁).vm := State.WarmedH.trans X.2.2.2.1 X₁.warmed
    obtain ⟨o, t, B, L, X', e1, e2, hL, hq, hsteps⟩ := px_back (bytes := bytes) (maxL := maxL) (ret := ret) (len := 3) (ig := .invokestatic index) hP rfl rfl X₁ (g := { g with stack := rest }) hg hsize hdg' hWd' hfit.1 hfit.2 (X₁.named hnamed) (a := As.toArray)
      (atoms_intro fun w hw => by rw [List.mem_singleton.mp hw]; exact px_word X.2.2.2.2 hw2 _ hcode) (px_word X.2.2.2.2 hw2 _ hcode) (px_word X.2.2.2.2 hw2 _ hini) hf.1 hf.2 (px_pre X hM (av := As) (U := T.setVm vm₁) hT X₁.warmed _ _)
    refine ⟨o, t, B, L, X', hL, e1, e2, hq, fun target h => hstep₁ _ fun acts => ?_⟩
    rw [doInvoke_state]
    refine hsteps.trans ?_
    cases o <;> exact h
  rcases hlink with hlink | ⟨host, hlink⟩
  · obtain ⟨vm₁, X₁, hstep₁⟩ := S.invokestatic X.1 X.2.2.1 (X.word hlink) hnamed hmethM hstatic hkP hinitP hy (g := g) hg (argsL := As) (rest := rest) (hlen _ hsigM) hstack hdg'
    exact main vm₁ X₁ hstep₁
  · obtain ⟨vm₁, X₁, hstep₁⟩ := S.invokestaticNest X.1 X.2.2.1 (X.word hlink) hnamed hmethM hstatic hkP hinitP hy (g := g) hg (argsL := As) (rest := rest) (hlen _ hsigM) hstack hdg'
    exact main vm₁ X₁ hstep₁
theorem px_runI (X : px_X Γ G cc own) {y : MethodName} {bytes : ByteArray} {maxL n index : Nat} {rm : Room} {b : Nat} {As rest : List Value} {K' : Option Value ⊕ String → px_H → Prop} {H : Heap} {locs : List Loc} {g : JFrame}
    (hP : px_P Γ.l G y bytes maxL none rm w2 (.ref b :: As) π K') (hM : px_M G.S0 G.D G.cl G.z0 π H) (cw : px_CW G.Ts own index y bytes maxL none n) (hy1 : y.name = "<init>") (hin : Cond.instanceMethod y ∈ G.Ts) (hfit : px_fit Γ.R rm maxL)
    (hg : g.method = Γ.m) (hn : As.length = n) (hsize : g.locals.size = Γ.c.maxLocals) (hstack : g.stack = As.reverse ++ .ref b :: rest) (hWd : 2 * g.monitorRoom + (rest.map fun v => v.category).sum ≤ 8) (hdg : decode cc g.pc = .ok (.invokespecial index, 3)) (hf : nc + rm.cells ≤ Γ.R.cells ∧ ns + rm.slots ≤ Γ.R.slots) :
    px_Run Γ H locs nc ns rm.cells rm.slots g rest (fun o t => px_Qc G K' #[] Γ.s o t) (px_fr G w2) := by
  obtain ⟨hlink, hcode, hini, hy, hlen⟩ := cw
  have hlen : ∀ sig, parseMethodDescriptor y.desc = some sig → As.length = sig.parameters.length := fun sig h => by
    rw [h] at hlen
    simp at hlen
    rw [hn, hlen]
  intro T hT S
  have hb := X.2.1
  have hdg' : decode Γ.c.code g.pc = .ok (.invokespecial index, 3) := by rw [hb]; exact hdg
  have hpl : Γ.e.platform.magicAccessors = ({} : Platform).magicAccessors := by rw [S.admits.platform]
  have main : ∀ vm₁ mk, Γ.s.methodNamed? y = some mk → Stand Γ.p Γ.l Γ.e Γ.R Γ.s Γ.m Γ.args Γ.below Γ.meth Γ.c (T.setVm vm₁) locs nc ns → (∀ target, (∀ acts, Steps Γ.p.tables Γ.e Γ.below (doInvoke Γ.e ((T.setVm vm₁).setTop { g with stack := rest }) acts mk (Value.ref b :: As).toArray).1 target) → Steps Γ.p.tables Γ.e Γ.below (T.setTop g) target) →
      ∃ (o : Outcome) (t T' : State) (L : List Loc), Stand Γ.p Γ.l Γ.e Γ.R Γ.s Γ.m Γ.args Γ.below Γ.meth Γ.c T' (locs ++ L) (nc + rm.cells) (ns + rm.slots) ∧ (∀ q ∈ L, px_fr G w2 q.base) ∧ T'.heap = t.heap ∧ T'.vm = t.vm ∧ px_Qc G K' #[] Γ.s o t ∧
        ∀ target, Steps Γ.p.tables Γ.e Γ.below (match o with | .returned v => T'.setTop { g with pc := g.pc + 3, stack := v.toList ++ rest } | .threw x => (T'.setTop { g with stack := rest }).pushFrame (.throwing x)) target → Steps Γ.p.tables Γ.e Γ.below (T.setTop g) target := by
    intro vm₁ mk hnamed X₁ hstep₁
    have hWd' : 2 * ({ g with stack := rest } : JFrame).monitorRoom + (({ g with stack := rest } : JFrame).stack.map fun v => v.category).sum ≤ 8 := hWd
    have hw2 : G.S0.WarmedH (T.setVm vm₁).vm := State.WarmedH.trans X.2.2.2.1 X₁.warmed
    obtain ⟨o, t, B, L, X', e1, e2, hL, hq, hsteps⟩ := px_back (bytes := bytes) (maxL := maxL) (ret := none) (len := 3) (ig := .invokespecial index) hP rfl rfl X₁ (g := { g with stack := rest }) hg hsize hdg' hWd' hfit.1 hfit.2 (X₁.named hnamed) (a := (Value.ref b :: As).toArray)
      (atoms_intro fun w hw => by rw [List.mem_singleton.mp hw]; exact px_word X.2.2.2.2 hw2 _ hcode) (px_word X.2.2.2.2 hw2 _ hcode) (px_word X.2.2.2.2 hw2 _ hini) hf.1 hf.2 (px_pre X hM (av := .ref b :: As) (U := T.setVm vm₁) hT X₁.warmed _ _)
    refine ⟨o, t, B, L, X', hL, e1, e2, hq, fun target h => hstep₁ _ fun acts => ?_⟩
    rw [doInvoke_state]
    refine hsteps.trans ?_
    cases o <;> exact h
  have hhere : At T g.method Γ.c Γ.below := by rw [hg]; exact S.here
  have hown : Γ.s.vm.findClass own = some g.method.cls := by rw [hg]; exact X.2.2.1
  rcases hlink with hlink | ⟨host, hlink⟩
  · obtain ⟨mk, methM, cM, kP, vm₁, hnamed, hmethM, hcodeM, -, hlocalsM, -, hkP, -, hW₁, hstep₁⟩ := Steps.initColdArgs (e := Γ.e) hhere X.1 S.warmed hpl hown hy1 hy (X.word hlink) (X.word hin) (X.word hcode) (f := g) rfl hlen hstack hdg'
    exact main vm₁ mk hnamed (S.noted hW₁) hstep₁
  · obtain ⟨mk, methM, cM, kP, vm₁, hnamed, hmethM, hcodeM, -, hlocalsM, -, hkP, -, hW₁, hstep₁⟩ := Steps.initColdArgsNest (e := Γ.e) hhere X.1 S.warmed hpl hown hy1 hy (X.word hlink) (X.word hin) (X.word hcode) (f := g) rfl hlen hstack hdg'
    exact main vm₁ mk hnamed (S.noted hW₁) hstep₁
/-- behind a call, in a method without handlers: each end of the callee goes on, or out -/
theorem px_after (X : px_X Γ G cc own) {ret : Option FieldType} (Y : px_Y Γ ret) {mc ms : Nat} {K' : Option Value ⊕ String → px_H → Prop} {H : Heap} {lsA : Array Slot} {locs : List Loc} {st0 : List Value} (hL : px_L Γ.c.maxLocals ls lsA) (hw : w2 = true → w1 = true) (hw1 : w1 = true → w = true) (hl : ∀ q ∈ locs, px_fr G w1 q.base) (h1 : nc + mc ≤ Γ.R.cells) (h2 : ns + ms ≤ Γ.R.slots)
    (hr : px_Run Γ H locs nc ns mc ms (F0 Γ.m pc lsA st0) st (fun o t => px_Qc G K' #[] Γ.s o t) (px_fr G w2))
    (kr : ∀ v π', K' (.inl v) π' → px_G Γ G (px_Q Γ G w K) w1 (nc + mc) (ns + ms) (pc + 3) ls (v.toList ++ st) π') (kt : ∀ k π', K' (.inr k) π' → K (.inr k) π') : W Γ.p Γ.l Γ.e Γ.R Γ.s Γ.m Γ.args Γ.below Γ.meth Γ.c H locs nc ns (px_Q Γ G w K) (F0 Γ.m pc lsA st0) := by
  intro T hT S
  obtain ⟨o, t, T', L, S', hLf, e1, e2, ⟨r, π', hO, hK, hW, hM⟩, hgo⟩ := hr T hT S
  have hl' : ∀ q ∈ locs ++ L, px_fr G w1 q.base := fun q hq => by
    rcases List.mem_append.mp hq with h | h
    · exact hl q h
    · exact ⟨hw (hLf q h).1, (hLf q h).2⟩
  cases r with
  | inl v =>
    have ho : o = .returned v := hO
    subst ho
    obtain ⟨t2, a1, b1⟩ := kr v π' hK T'.heap lsA (locs ++ L) hL (by rw [e1]; exact hM) hl' T' rfl S'
    exact ⟨t2, hgo t2 a1, b1⟩
  | inr k =>
    obtain ⟨x, cell, rfl, hx1, hx2, hx3⟩ := hO
    have S2 := stand_widen S' h1 h2
    obtain ⟨hwalk, hrun, hend, hwarm, hsame⟩ := S2.leaveThrown x (g := { F0 Γ.m pc lsA st0 with stack := st }) rfl rfl rfl (fun y hy => absurd hy (fun h => Y.2.2 y h)) Y.2.1
    refine ⟨T'.setFrames (.throwing x :: Γ.below), hgo _ hwalk, .threw x, hrun, hend, ⟨.inr k, π', ⟨x, cell, rfl, ?_, hx2, ?_⟩, kt k π' hK, ?_, ?_⟩, locs ++ L, ⟨hwarm, hsame⟩, fun q hq => ⟨hw1 (hl' q hq).1, (hl' q hq).2⟩⟩
    · show T'.heap[x]? = some cell
      rw [e1]
      exact hx1
    · show T'.vm.findClass k = some cell.cls
      rw [e2]
      exact hx3
    · show G.S0.WarmedH T'.vm
      rw [e2]
      exact hW
    · show px_M G.S0 G.D G.cl G.z0 π' T'.heap
      rw [e1]
      exact hM
theorem pg_callV (X : px_X Γ G cc own) {ret0 : Option FieldType} (Y : px_Y Γ ret0) {y : MethodName} {bytes : ByteArray} {maxL n index ci : Nat} {ret : Option FieldType} {rm : Room} {b : Nat} {As st0 : List Value} {fs : List Value} {K' : Option Value ⊕ String → px_H → Prop}
    (hd : px_D cc pc (.invokevirtual index) 3 q) (cw : px_CW G.Ts own index y bytes maxL ret n) (hin : Cond.instanceMethod y ∈ G.Ts) (hse : Cond.selects y.cls y y ∈ G.Ts) (hob : px_rd G.ρ π b (.inr (ci, fs))) (hci : ∀ r, G.cl[ci]? = some r → r.1 = y.cls) (hn : As.length = n) (hst0 : st0 = As.reverse ++ .ref b :: st) (hWd : (st.map fun v => v.category).sum ≤ 8)
    (hP : px_P Γ.l G y bytes maxL ret rm w2 (.ref b :: As) π K') (hfit : px_fit Γ.R rm maxL) (hw : w2 = true → w1 = true) (hw1 : w1 = true → w = true) (h1 : nc + rm.cells ≤ Γ.R.cells) (h2 : ns + rm.slots ≤ Γ.R.slots)
    (kr : ∀ v π', K' (.inl v) π' → px_G Γ G (px_Q Γ G w K) w1 (nc + rm.cells) (ns + rm.slots) q ls (v.toList ++ st) π') (kt : ∀ k π', K' (.inr k) π' → K (.inr k) π') : px_G Γ G (px_Q Γ G w K) w1 nc ns pc ls st0 π := by
  obtain ⟨hd, rfl⟩ := hd
  intro H lsA locs hL hM hl
  refine px_after X Y hL hw hw1 hl h1 h2 (px_runV X hP hM cw hin (X.word hse) hfit ?_ rfl hn hL.1 hst0 (lv_room hWd) hd ⟨h1, h2⟩) kr kt
  obtain ⟨r, g1, -, cell, g2, g3, g4, -⟩ := X.rd hM hob
  refine ⟨cell, g2, by rw [g4]; rfl, ?_⟩
  rw [g3, ← hci r g1]
  exact (X.K.1 ci r g1).2.1
theorem pg_callS (X : px_X Γ G cc own) {ret0 : Option FieldType} (Y : px_Y Γ ret0) {y : MethodName} {bytes : ByteArray} {maxL n index : Nat} {ret : Option FieldType} {rm : Room} {As st0 : List Value} {K' : Option Value ⊕ String → px_H → Prop}
    (hd : px_D cc pc (.invokestatic index) 3 q) (cw : px_CW G.Ts own index y bytes maxL ret n) (hst : Cond.static y ∈ G.Ts) (hn : As.length = n) (hst0 : st0 = As.reverse ++ st) (hWd : (st.map fun v => v.category).sum ≤ 8)
    (hP : px_P Γ.l G y bytes maxL ret rm w2 As π K') (hfit : px_fit Γ.R rm maxL) (hw : w2 = true → w1 = true) (hw1 : w1 = true → w = true) (h1 : nc + rm.cells ≤ Γ.R.cells) (h2 : ns + rm.slots ≤ Γ.R.slots)
    (kr : ∀ v π', K' (.inl v) π' → px_G Γ G (px_Q Γ G w K) w1 (nc + rm.cells) (ns + rm.slots) q ls (v.toList ++ st) π') (kt : ∀ k π', K' (.inr k) π' → K (.inr k) π') : px_G Γ G (px_Q Γ G w K) w1 nc ns pc ls st0 π := by
  obtain ⟨hd, rfl⟩ := hd
  intro H lsA locs hL hM hl
  exact px_after X Y hL hw hw1 hl h1 h2 (px_runS X hP hM cw hst hfit rfl hn hL.1 hst0 (lv_room hWd) hd ⟨h1, h2⟩) kr kt
theorem pg_callI (X : px_X Γ G cc own) {ret0 : Option FieldType} (Y : px_Y Γ ret0) {y : MethodName} {bytes : ByteArray} {maxL n index : Nat} {rm : Room} {b : Nat} {As st0 : List Value} {K' : Option Value ⊕ String → px_H → Prop}
    (hd : px_D cc pc (.invokespecial index) 3 q) (cw : px_CW G.Ts own index y bytes maxL none n) (hy1 : y.name = "<init>") (hin : Cond.instanceMethod y ∈ G.Ts) (hn : As.length = n) (hst0 : st0 = As.reverse ++ .ref b :: st) (hWd : (st.map fun v => v.category).sum ≤ 8)
    (hP : px_P Γ.l G y bytes maxL none rm w2 (.ref b :: As) π K') (hfit : px_fit Γ.R rm maxL) (hw : w2 = true → w1 = true) (hw1 : w1 = true → w = true) (h1 : nc + rm.cells ≤ Γ.R.cells) (h2 : ns + rm.slots ≤ Γ.R.slots)
    (kr : ∀ v π', K' (.inl v) π' → px_G Γ G (px_Q Γ G w K) w1 (nc + rm.cells) (ns + rm.slots) q ls (v.toList ++ st) π') (kt : ∀ k π', K' (.inr k) π' → K (.inr k) π') : px_G Γ G (px_Q Γ G w K) w1 nc ns pc ls st0 π := by
  obtain ⟨hd, rfl⟩ := hd
  intro H lsA locs hL hM hl
  exact px_after X Y hL hw hw1 hl h1 h2 (px_runI X hP hM cw hy1 hin hfit rfl hn hL.1 hst0 (lv_room hWd) hd ⟨h1, h2⟩) kr kt
/-- returns -/
theorem pg_iret (X : px_X Γ G cc own) {ty : FieldType} (Y : px_Y Γ (some ty)) {v : Int32} (hd : px_D cc pc .ireturn 1 q) (hn : narrow ty (.int v) = .int v) (hw1 : w1 = true → w = true) (h1 : nc ≤ Γ.R.cells) (h2 : ns ≤ Γ.R.slots) (hK : K (.inl (some (.int v))) π) : px_G Γ G (px_Q Γ G w K) w1 nc ns pc ls [.int v] π := by
  intro H lsA locs hL hM hl
  exact px_Wm (fun t h => px_MQ.of h) (W.widen h1 h2 (W.zret X.1 X.2.1 Y.1 hn (Qc := px_Qc G K) (free := px_fr G w) (fun t ht hW => ⟨.inl (some (.int v)), π, rfl, hK, State.WarmedH.trans X.2.2.2.1 hW, by rw [ht]; exact hM⟩) (fun q hq => ⟨hw1 (hl q hq).1, (hl q hq).2⟩) hd.1 Y.2.1))
theorem pg_vret (X : px_X Γ G cc own) (Y : px_Y Γ none) (hd : px_D cc pc .return_ 1 q) (hw1 : w1 = true → w = true) (h1 : nc ≤ Γ.R.cells) (h2 : ns ≤ Γ.R.slots) (hK : K (.inl none) π) : px_G Γ G (px_Q Γ G w K) w1 nc ns pc ls [] π := by
  intro H lsA locs hL hM hl
  exact px_Wm (fun t h => px_MQ.of h) (W.widen h1 h2 (W.vret X.1 X.2.1 Y.1 (Qc := px_Qc G K) (free := px_fr G w) (fun t ht hW => ⟨.inl none, π, rfl, hK, State.WarmedH.trans X.2.2.2.1 hW, by rw [ht]; exact hM⟩) (fun q hq => ⟨hw1 (hl q hq).1, (hl q hq).2⟩) hd.1 Y.2.1))
theorem pg_aret (X : px_X Γ G cc own) {rt : FieldType} (Y : px_Y Γ (some rt)) {v : Value} (hrt : (∃ n, rt = .object n) ∨ ∃ t, rt = .array t) (hv : v = .null ∨ ∃ a, v = .ref a) (hd : px_D cc pc .areturn 1 q) (hw1 : w1 = true → w = true) (h1 : nc ≤ Γ.R.cells) (h2 : ns ≤ Γ.R.slots) (hK : K (.inl (some v)) π) : px_G Γ G (px_Q Γ G w K) w1 nc ns pc ls [v] π := by
  intro H lsA locs hL hM hl
  exact px_Wm (fun t h => px_MQ.of h) (W.widen h1 h2 (W.aret X.1 X.2.1 Y.1 hrt hv (Qc := px_Qc G K) (free := px_fr G w) (fun t ht hW => ⟨.inl (some v), π, rfl, hK, State.WarmedH.trans X.2.2.2.1 hW, by rw [ht]; exact hM⟩) (fun q hq => ⟨hw1 (hl q hq).1, (hl q hq).2⟩) hd.1 Y.2.1))
end PGI
