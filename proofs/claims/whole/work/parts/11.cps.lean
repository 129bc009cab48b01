/-! CALLS in the passing style: what the callee's ends must give is what the caller goes on with -/
abbrev px_K (Γ : px_Cm) (G : px_Cg) (w : Bool) (K : Option Value ⊕ String → px_H → Prop) (w1 : Bool) (nc ns q : Nat) (ls : List (Option Value)) (st : List Value) : Option Value ⊕ String → px_H → Prop := fun r π' => match r with
  | .inl (some v) => px_G Γ G (px_Q Γ G w K) w1 nc ns q ls (v :: st) π'
  | .inl none => px_G Γ G (px_Q Γ G w K) w1 nc ns q ls st π'
  | .inr k => K (.inr k) π'
section CPS
variable {Γ : px_Cm} {G : px_Cg} {K : Option Value ⊕ String → px_H → Prop} {cc : ByteArray} {own : String} {w w1 w2 : Bool} {nc ns pc q : Nat} {ls : List (Option Value)} {st : List Value} {π : px_H}
theorem px_K.r {v : Option Value} {π' : px_H} (h : px_K Γ G w K w1 nc ns q ls st (.inl v) π') : px_G Γ G (px_Q Γ G w K) w1 nc ns q ls (v.toList ++ st) π' := by
  cases v <;> exact h
theorem pc_V (X : px_X Γ G cc own) {ret0 : Option FieldType} (Y : px_Y Γ ret0) {y : MethodName} {bytes : ByteArray} {maxL n index ci : Nat} {ret : Option FieldType} {rm : Room} {b : Nat} {As st0 : List Value} {fs : List Value}
    (hd : px_D cc pc (.invokevirtual index) 3 q) (cw : px_CW G.Ts own index y bytes maxL ret n) (hin : Cond.instanceMethod y ∈ G.Ts) (hse : Cond.selects y.cls y y ∈ G.Ts) (hci : ∀ r, G.cl[ci]? = some r → r.1 = y.cls) (hn : As.length = n) (hst0 : st0 = As.reverse ++ .ref b :: st) (hWd : (st.map fun v => v.category).sum ≤ 8)
    (hfit : px_fit Γ.R rm maxL) (hw : w2 = true → w1 = true) (hw1 : w1 = true → w = true) (h1 : nc + rm.cells ≤ Γ.R.cells) (h2 : ns + rm.slots ≤ Γ.R.slots) (hob : px_rd G.ρ π b (.inr (ci, fs)))
    (hP : px_P Γ.l G y bytes maxL ret rm w2 (.ref b :: As) π (px_K Γ G w K w1 (nc + rm.cells) (ns + rm.slots) q ls st)) : px_G Γ G (px_Q Γ G w K) w1 nc ns pc ls st0 π :=
  pg_callV X Y hd cw hin hse hob hci hn hst0 hWd hP hfit hw hw1 h1 h2 (fun v π' h => px_K.r h) (fun k π' h => h)
theorem pc_S (X : px_X Γ G cc own) {ret0 : Option FieldType} (Y : px_Y Γ ret0) {y : MethodName} {bytes : ByteArray} {maxL n index : Nat} {ret : Option FieldType} {rm : Room} {As st0 : List Value}
    (hd : px_D cc pc (.invokestatic index) 3 q) (cw : px_CW G.Ts own index y bytes maxL ret n) (hst : Cond.static y ∈ G.Ts) (hn : As.length = n) (hst0 : st0 = As.reverse ++ st) (hWd : (st.map fun v => v.category).sum ≤ 8)
    (hfit : px_fit Γ.R rm maxL) (hw : w2 = true → w1 = true) (hw1 : w1 = true → w = true) (h1 : nc + rm.cells ≤ Γ.R.cells) (h2 : ns + rm.slots ≤ Γ.R.slots)
    (hP : px_P Γ.l G y bytes maxL ret rm w2 As π (px_K Γ G w K w1 (nc + rm.cells) (ns + rm.slots) q ls st)) : px_G Γ G (px_Q Γ G w K) w1 nc ns pc ls st0 π :=
  pg_callS X Y hd cw hst hn hst0 hWd hP hfit hw hw1 h1 h2 (fun v π' h => px_K.r h) (fun k π' h => h)
theorem pc_I (X : px_X Γ G cc own) {ret0 : Option FieldType} (Y : px_Y Γ ret0) {y : MethodName} {bytes : ByteArray} {maxL n index : Nat} {rm : Room} {b : Nat} {As st0 : List Value}
    (hd : px_D cc pc (.invokespecial index) 3 q) (cw : px_CW G.Ts own index y bytes maxL none n) (hy1 : y.name = "<init>") (hin : Cond.instanceMethod y ∈ G.Ts) (hn : As.length = n) (hst0 : st0 = As.reverse ++ .ref b :: st) (hWd : (st.map fun v => v.category).sum ≤ 8)
    (hfit : px_fit Γ.R rm maxL) (hw : w2 = true → w1 = true) (hw1 : w1 = true → w = true) (h1 : nc + rm.cells ≤ Γ.R.cells) (h2 : ns + rm.slots ≤ Γ.R.slots)
    (hP : px_P Γ.l G y bytes maxL none rm w2 (.ref b :: As) π (px_K Γ G w K w1 (nc + rm.cells) (ns + rm.slots) q ls st)) : px_G Γ G (px_Q Γ G w K) w1 nc ns pc ls st0 π :=
  pg_callI X Y hd cw hy1 hin hn hst0 hWd hP hfit hw hw1 h1 h2 (fun v π' h => px_K.r h) (fun k π' h => h)
/-- a static field that was there at the start -/
theorem pg_gets {Q : State → Prop} (X : px_X Γ G cc own) {C n d host : String} {index : Nat} {v : Value} (hz : va_Z C n d v (fun q => G.z0 ≤ q) G.S0 G.S0.heap) (hl : Cond.fieldLinkNest own index C n d host ∈ G.Ts) (hd : px_D cc pc (.getstatic index) 3 q) (kk : px_G Γ G Q w nc ns q ls (v :: st) π) : px_G Γ G Q w nc ns pc ls st π := by
  obtain ⟨hd, rfl⟩ := hd
  intro H lsA locs hL hM hl'
  obtain ⟨cf, kf, fi, f, a, cell, g1, g2, g3, g4, g5, g6, g7, g8⟩ := (hz.kept (H1 := H) (fun a _ ha => hM.2.2.1 a (Nat.not_le.mp ha))).moved X.al
  refine va_WgetsN X.1 X.2.1 X.2.2.1 (X.word hl) g1 g2 g3 g4 g5 ?_ g7 rfl hd (kk H lsA locs hL hM hl')
  intro hu
  rw [hu] at g6
  cases g6
end CPS
abbrev px_Zg (G : px_Cg) : Prop := px_Z G.S0 G.D G.cl G.z0 G.ρ G.Ts
def sideX (j : Nat) : Int32 := if j = 1 then 1 else if j = 3 then -1 else 0
def sideY (j : Nat) : Int32 := if j = 0 then -1 else if j = 2 then 1 else 0
def px_SD (G : px_Cg) : Prop := ∃ sx sy : Nat, va_Z "VisitorSteps" "SIDE_X" "[I" (.ref sx) (fun q => G.z0 ≤ q) G.S0 G.S0.heap ∧ va_Z "VisitorSteps" "SIDE_Y" "[I" (.ref sy) (fun q => G.z0 ≤ q) G.S0 G.S0.heap ∧ G.ρ sx = some (.inl (.int, 4, .inl sideX)) ∧ G.ρ sy = some (.inl (.int, 4, .inl sideY))
def st_1 : Cond := .isRef (.static Jvm.Bundle.tN "UNASSIGNED_STACK" Jvm.Bundle.steD)
def st_2 : Cond := .isRef (.static Jvm.Bundle.tN "SUPPRESSED_SENTINEL" Jvm.Bundle.listD)
def st_3 : Cond := .laysStatic Jvm.Bundle.tN "UNASSIGNED_STACK" Jvm.Bundle.steD
def st_4 : Cond := .laysStatic Jvm.Bundle.tN "SUPPRESSED_SENTINEL" Jvm.Bundle.listD
/-- what a throw needs of the start -/
def px_TH (G : px_Cg) : Prop := (∀ (a : Array Value) (U : State), G.S0.WarmedH U.vm → (∀ q : Nat, q < G.z0 → U.heap[q]? = G.S0.heap[q]?) → (st_1.before a U = true ∧ st_2.before a U = true) ∧ st_3.before a U = true ∧ st_4.before a U = true) ∧ ∀ (k : Nat) (tx : String), Cond.stringRef "VisitorSteps" k tx ∈ lw_tbl → ∃ q : Nat, vk_R "VisitorSteps" k tx q G.S0
abbrev FL (l : Launch) : Prop := l.flags = pinnedFlags ++ [noTraceFlag]
/-- all that is known of the start -/
def GA (G : px_Cg) : Prop := gg G ∧ px_Zg G ∧ px_SD G ∧ px_TH G
section THR
variable {Γ : px_Cm} {G : px_Cg} {K : Option Value ⊕ String → px_H → Prop} {cc : ByteArray} {w : Bool} {nc ns pc : Nat} {ls : List (Option Value)} {st : List Value} {π : px_H}
def th_ok (ic : Nat) (cls : String) : Prop := ∀ a ∈ Jvm.Bundle.ownAtoms "VisitorSteps" ic cls ["java/lang/RuntimeException", "java/lang/Exception"], (a ∈ lw_tbl ∧ lw_kp a = true) ∨ a = st_1 ∨ a = st_2 ∨ a = st_3 ∨ a = st_4
theorem pt_V (X : px_X Γ G cc "VisitorSteps") {ret : Option FieldType} (Y : px_Y Γ ret) (A : GA G) (hfl : FL Γ.l) {inew istr ic q0 q1 q2 q3 q4 : Nat} {cls tx : String} (hth : th_ok ic cls)
    (d0 : px_D cc pc (.new inew) 3 q0) (d1 : px_D cc q0 .dup 1 q1) (d2 : px_D cc q1 (.ldc istr) 2 q2) (d3 : px_D cc q2 (.invokespecial ic) 3 q3) (d4 : px_D cc q3 .athrow 1 q4)
    (hcl : Cond.classLink "VisitorSteps" inew cls ∈ lw_tbl) (hin : Cond.instantiable cls 6 ∈ lw_tbl) (hini : Cond.initialized cls ∈ lw_tbl) (hstr : Cond.stringRef "VisitorSteps" istr tx ∈ lw_tbl) (hfc : Jvm.Bundle.fit cls = true)
    (hcells : nc + 1 ≤ Γ.R.cells) (hslots : ns + 6 ≤ Γ.R.slots) (hRf : 5 < Γ.R.frames) (hRl : (st.map fun v => v.category).sum + 1 + 81 ≤ Γ.R.locals)
    (hs : Γ.s.heap.size = π.1) (hbel : ∀ q : Nat, q < G.z0 → Γ.s.heap[q]? = G.S0.heap[q]?) (hK : ∀ z, π.1 < z → K (.inr cls) (z, π.2)) : px_G Γ G (px_Q Γ G w K) false nc ns pc ls st π := by
  obtain ⟨hG, hZ, -, hT1, hT2⟩ := A
  obtain ⟨qs, hqs⟩ := hT2 istr tx hstr
  refine pg_throw (names := ["java/lang/RuntimeException", "java/lang/Exception"]) X Y d0 d1 d2 d3 d4 (hG.t hcl) (hG.t hin) (hG.t hini) ?_ (hqs.warm X.2.2.2.1) hfl hfc (by decide +kernel) hcells hslots hRf hRl hs hK
  intro a ha
  rcases hth a ha with h | h | h | h | h
  · exact X.word (hG.t h.1 h.2)
  · rw [h]
    exact (hT1 Γ.args Γ.s X.2.2.2.1 hbel).1.1
  · rw [h]
    exact (hT1 Γ.args Γ.s X.2.2.2.1 hbel).1.2
  · rw [h]
    exact (hT1 Γ.args Γ.s X.2.2.2.1 hbel).2.1
  · rw [h]
    exact (hT1 Γ.args Γ.s X.2.2.2.1 hbel).2.2
end THR
set_option maxRecDepth 100000 in
theorem th_IAE : th_ok 68 "java/lang/IllegalArgumentException" := by unfold th_ok; decide +kernel
set_option maxRecDepth 100000 in
theorem th_ISE : th_ok 79 "java/lang/IllegalStateException" := by unfold th_ok; decide +kernel
set_option maxRecDepth 100000 in
theorem th_IOB : th_ok 132 "java/lang/IndexOutOfBoundsException" := by unfold th_ok; decide +kernel
