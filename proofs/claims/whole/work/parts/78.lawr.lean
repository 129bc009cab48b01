/-! THE LAW'S OWN CALLS: no callee throws -/
section LWR
variable {Γ : px_Cm} {G : px_Cg} {Q : State → Prop} {cc : ByteArray} {own : String} {w1 w2 : Bool} {nc ns pc q : Nat} {ls : List (Option Value)} {st : List Value} {π : px_H}
theorem px_afterN (X : px_X Γ G cc own) {mc ms : Nat} {K' : Option Value ⊕ String → px_H → Prop} {H : Heap} {lsA : Array Slot} {locs : List Loc} {st0 : List Value} (hL : px_L Γ.c.maxLocals ls lsA) (hw : w2 = true → w1 = true) (hl : ∀ q ∈ locs, px_fr G w1 q.base)
    (hr : px_Run Γ H locs nc ns mc ms (F0 Γ.m pc lsA st0) st (fun o t => px_Qc G K' #[] Γ.s o t) (px_fr G w2))
    (kr : ∀ v π', K' (.inl v) π' → px_G Γ G Q w1 (nc + mc) (ns + ms) (pc + 3) ls (v.toList ++ st) π') (kt : ∀ k π', ¬ K' (.inr k) π') : W Γ.p Γ.l Γ.e Γ.R Γ.s Γ.m Γ.args Γ.below Γ.meth Γ.c H locs nc ns Q (F0 Γ.m pc lsA st0) := by
  intro T hT S
  obtain ⟨o, t, T', L, S', hLf, e1, e2, ⟨r, π', hO, hK, hW, hM⟩, hgo⟩ := hr T hT S
  have hl' : ∀ q ∈ locs ++ L, px_fr G w1 q.base := fun q hq => by
    rcases List.mem_append.mp hq with h | h
    · exact hl q h
    · exact ⟨hw (hLf q h).1, (hLf q h).2⟩
  cases r with
  | inl v =>
    have ho : o = .returned v := hO
    subst ho
    obtain ⟨t2, a1, b1⟩ := kr v π' hK T'.heap lsA (locs ++ L) hL (by rw [e1]; exact hM) hl' T' rfl S'
    exact ⟨t2, hgo t2 a1, b1⟩
  | inr k => exact absurd hK (kt k π')
abbrev px_K0 (Γ : px_Cm) (G : px_Cg) (Q : State → Prop) (w1 : Bool) (nc ns q : Nat) (ls : List (Option Value)) (st : List Value) : Option Value ⊕ String → px_H → Prop := fun r π' => match r with
  | .inl (some v) => px_G Γ G Q w1 nc ns q ls (v :: st) π'
  | .inl none => px_G Γ G Q w1 nc ns q ls st π'
  | .inr _ => False
theorem px_K0.r {v : Option Value} {π' : px_H} (h : px_K0 Γ G Q w1 nc ns q ls st (.inl v) π') : px_G Γ G Q w1 nc ns q ls (v.toList ++ st) π' := by
  cases v <;> exact h
theorem pz_V (X : px_X Γ G cc own) {y : MethodName} {bytes : ByteArray} {maxL n index ci : Nat} {ret : Option FieldType} {rm : Room} {b : Nat} {As st0 : List Value} {fs : List Value}
    (hd : px_D cc pc (.invokevirtual index) 3 q) (cw : px_CW G.Ts own index y bytes maxL ret n) (hin : Cond.instanceMethod y ∈ G.Ts) (hse : Cond.selects y.cls y y ∈ G.Ts) (hci : ∀ r, G.cl[ci]? = some r → r.1 = y.cls) (hn : As.length = n) (hst0 : st0 = As.reverse ++ .ref b :: st) (hWd : (st.map fun v => v.category).sum ≤ 8)
    (hfit : px_fit Γ.R rm maxL) (hw : w2 = true → w1 = true) (h1 : nc + rm.cells ≤ Γ.R.cells) (h2 : ns + rm.slots ≤ Γ.R.slots) (hob : px_rd G.ρ π b (.inr (ci, fs)))
    (hP : px_P Γ.l G y bytes maxL ret rm w2 (.ref b :: As) π (px_K0 Γ G Q w1 (nc + rm.cells) (ns + rm.slots) q ls st)) : px_G Γ G Q w1 nc ns pc ls st0 π := by
  obtain ⟨hd, rfl⟩ := hd
  intro H lsA locs hL hM hl
  refine px_afterN X hL hw hl (px_runV X hP hM cw hin (X.word hse) hfit ?_ rfl hn hL.1 hst0 (lv_room hWd) hd ⟨h1, h2⟩) (fun v π' h => px_K0.r h) (fun k π' h => h)
  obtain ⟨r, g1, -, cell, g2, g3, g4, -⟩ := X.rd hM hob
  refine ⟨cell, g2, by rw [g4]; rfl, ?_⟩
  rw [g3, ← hci r g1]
  exact (X.K.1 ci r g1).2.1
theorem pz_S (X : px_X Γ G cc own) {y : MethodName} {bytes : ByteArray} {maxL n index : Nat} {ret : Option FieldType} {rm : Room} {As st0 : List Value}
    (hd : px_D cc pc (.invokestatic index) 3 q) (cw : px_CW G.Ts own index y bytes maxL ret n) (hst : Cond.static y ∈ G.Ts) (hn : As.length = n) (hst0 : st0 = As.reverse ++ st) (hWd : (st.map fun v => v.category).sum ≤ 8)
    (hfit : px_fit Γ.R rm maxL) (hw : w2 = true → w1 = true) (h1 : nc + rm.cells ≤ Γ.R.cells) (h2 : ns + rm.slots ≤ Γ.R.slots)
    (hP : px_P Γ.l G y bytes maxL ret rm w2 As π (px_K0 Γ G Q w1 (nc + rm.cells) (ns + rm.slots) q ls st)) : px_G Γ G Q w1 nc ns pc ls st0 π := by
  obtain ⟨hd, rfl⟩ := hd
  intro H lsA locs hL hM hl
  exact px_afterN X hL hw hl (px_runS X hP hM cw hst hfit rfl hn hL.1 hst0 (lv_room hWd) hd ⟨h1, h2⟩) (fun v π' h => px_K0.r h) (fun k π' h => h)
theorem pz_SH (X : px_X Γ G cc own) {y : MethodName} {bytes : ByteArray} {maxL n index : Nat} {ret : Option FieldType} {hs : List (Nat × Nat × Nat × Nat)} {rm : Room} {As st0 : List Value}
    (hd : px_D cc pc (.invokestatic index) 3 q) (cw : px_CWH G.Ts own index y bytes maxL ret hs n) (hst : Cond.static y ∈ G.Ts) (hn : As.length = n) (hst0 : st0 = As.reverse ++ st) (hWd : (st.map fun v => v.category).sum ≤ 8)
    (hfit : px_fit Γ.R rm maxL) (hw : w2 = true → w1 = true) (h1 : nc + rm.cells ≤ Γ.R.cells) (h2 : ns + rm.slots ≤ Γ.R.slots)
    (hP : px_PH Γ.l G y bytes maxL ret hs rm w2 As π (px_K0 Γ G Q w1 (nc + rm.cells) (ns + rm.slots) q ls st)) : px_G Γ G Q w1 nc ns pc ls st0 π := by
  obtain ⟨hd, rfl⟩ := hd
  intro H lsA locs hL hM hl
  exact px_afterN X hL hw hl (px_runSH X hP hM cw hst hfit rfl hn hL.1 hst0 (lv_room hWd) hd ⟨h1, h2⟩) (fun v π' h => px_K0.r h) (fun k π' h => h)
theorem pz_I (X : px_X Γ G cc own) {y : MethodName} {bytes : ByteArray} {maxL n index : Nat} {rm : Room} {b : Nat} {As st0 : List Value}
    (hd : px_D cc pc (.invokespecial index) 3 q) (cw : px_CW G.Ts own index y bytes maxL none n) (hy1 : y.name = "<init>") (hin : Cond.instanceMethod y ∈ G.Ts) (hn : As.length = n) (hst0 : st0 = As.reverse ++ .ref b :: st) (hWd : (st.map fun v => v.category).sum ≤ 8)
    (hfit : px_fit Γ.R rm maxL) (hw : w2 = true → w1 = true) (h1 : nc + rm.cells ≤ Γ.R.cells) (h2 : ns + rm.slots ≤ Γ.R.slots)
    (hP : px_P Γ.l G y bytes maxL none rm w2 (.ref b :: As) π (px_K0 Γ G Q w1 (nc + rm.cells) (ns + rm.slots) q ls st)) : px_G Γ G Q w1 nc ns pc ls st0 π := by
  obtain ⟨hd, rfl⟩ := hd
  intro H lsA locs hL hM hl
  exact px_afterN X hL hw hl (px_runI X hP hM cw hy1 hin hfit rfl hn hL.1 hst0 (lv_room hWd) hd ⟨h1, h2⟩) (fun v π' h => px_K0.r h) (fun k π' h => h)
end LWR
