/-! THROW: new E("text"), in a method that has written nothing yet -/
theorem px_same {s t : State} {k n : Nat} (h : s.sameButNew t [] k n) {a : Nat} {c : Cell} (ha : s.heap[a]? = some c) : t.heap[a]? = some c := by
  obtain ⟨c', h1, h2, h3, h4⟩ := h.2.2.2.2.2 a c ha
  have h5 : c'.slots = c.slots := Array.ext_getElem? (fun i => h4 i (by simp))
  rw [h1, h2, h5]
section PGT
variable {Γ : px_Cm} {G : px_Cg} {K : Option Value ⊕ String → px_H → Prop} {cc : ByteArray} {own : String} {w : Bool} {nc ns pc : Nat} {ls : List (Option Value)} {st : List Value} {π : px_H}
theorem pg_throw (X : px_X Γ G cc own) {ret : Option FieldType} (Y : px_Y Γ ret) {inew istr ic qs q0 q1 q2 q3 q4 : Nat} {cls tx : String} {names : List String}
    (d0 : px_D cc pc (.new inew) 3 q0) (d1 : px_D cc q0 .dup 1 q1) (d2 : px_D cc q1 (.ldc istr) 2 q2) (d3 : px_D cc q2 (.invokespecial ic) 3 q3) (d4 : px_D cc q3 .athrow 1 q4)
    (hcl : Cond.classLink own inew cls ∈ G.Ts) (hin : Cond.instantiable cls 6 ∈ G.Ts) (hini : Cond.initialized cls ∈ G.Ts)
    (hA : ∀ a ∈ Jvm.Bundle.ownAtoms own ic cls names, a.before Γ.args Γ.s = true) (hstr : vk_R own istr tx qs Γ.s) (hfl : Γ.l.flags = pinnedFlags ++ [noTraceFlag]) (hfc : Jvm.Bundle.fit cls = true) (hfn : ∀ n ∈ names, Jvm.Bundle.fit n = true)
    (hcells : nc + 1 ≤ Γ.R.cells) (hslots : ns + 6 ≤ Γ.R.slots) (hRf : names.length + 3 < Γ.R.frames) (hRl : (st.map fun v => v.category).sum + 1 + (13 * (names.length + 1) + 42) ≤ Γ.R.locals)
    (hz : Γ.s.heap.size = π.1) (hK : ∀ z, π.1 < z → K (.inr cls) (z, π.2)) : px_G Γ G (px_Q Γ G w K) false nc ns pc ls st π := by
  obtain ⟨d0, rfl⟩ := d0
  obtain ⟨d1, rfl⟩ := d1
  obtain ⟨d2, rfl⟩ := d2
  obtain ⟨d3, rfl⟩ := d3
  obtain ⟨d4, -⟩ := d4
  intro H lsA locs hL hM hl
  have hlocs : locs = [] := by
    cases locs with
    | nil => rfl
    | cons a r => exact absurd (hl a List.mem_cons_self).1 (by decide)
  subst hlocs
  obtain ⟨cX, kX, hfoundX, hkX, -⟩ := Cond.instantiable_spec (X.word hin)
  refine W.newcK X.1 X.2.1 X.2.2.1 (X.word hcl) (X.word hin) (X.word hini) rfl d0 hcells hslots hfoundX rfl fun H1 kC hkC e1 z1 o1 => ?_
  cases Option.some.inj (hkX.symm.trans hkC)
  refine lv_dup X.1 X.2.1 d1 rfl ?_
  refine va_ldcS X.1 X.2.1 X.2.2.1 hstr d2 ?_
  intro T hT S
  have S2 := stand_widen S hcells hslots
  have htr : Γ.e.platform.stackTraces = false := Launch.traces_off hfl S.admits
  obtain ⟨U, hst, hrun, hend, hwarm, hsame, ce, hce, hO⟩ := S2.ctorThrowS X.1 htr X.2.2.1 hfc hfn hA (fun x hx => by cases hx) hfoundX hkX (a := H.size) (by rw [hT]; exact e1) (by rw [hz, hM.1]; exact Nat.le_refl _) (msg := .ref qs) rfl
    (g := F0 Γ.m (pc + 3 + 1 + 2) lsA (.ref qs :: .ref H.size :: .ref H.size :: st)) rfl hL.1 rfl rfl (rest := st) rfl (by rw [X.2.1]; exact d3) (by rw [X.2.1]; exact d4) (fun x hx => absurd hx (fun h => Y.2.2 x h)) hRf
    (by simp only [List.map_cons, List.sum_cons]; show 2 * 0 + (1 + (st.map fun v => v.category).sum) + (13 * (names.length + 1) + 42) ≤ Γ.R.locals; omega) Y.2.1
  have hold : ∀ q : Nat, q < Γ.s.heap.size → U.heap[q]? = H[q]? := by
    intro q hq
    obtain ⟨c, hc⟩ : ∃ c, Γ.s.heap[q]? = some c := ⟨Γ.s.heap[q], by simp [hq]⟩
    have h1 : U.heap[q]? = some c := px_same hsame hc
    have h2 : (T.setVm Γ.s.vm).heap[q]? = some c := px_same S2.same hc
    have h3 : H1[q]? = some c := by rw [← hT]; exact h2
    rw [h1, ← h3, o1 q (by rw [← hM.1, ← hz]; exact hq)]
  have hsz : π.1 < U.heap.size := by
    rw [hM.1]
    exact (Array.getElem?_eq_some_iff.mp hce).1
  refine ⟨U, hst, .threw H.size, hrun, hend, ⟨.inr cls, (U.heap.size, π.2), ⟨H.size, ce, rfl, hce, hO.vm, ?_⟩, hK _ hsz, State.WarmedH.trans X.2.2.2.1 hwarm, rfl, ?_, ?_, ?_⟩, [], ⟨hwarm, hsame⟩, fun q hq => by cases hq⟩
  · rw [hwarm.alike.findClass]
    exact hO.cls
  · have := hM.2.1
    have h9 := hM.1
    omega
  · intro q hq
    rw [hold q (by rw [hz, hM.1]; exact Nat.lt_of_lt_of_le hq hM.2.1)]
    exact hM.2.2.1 q hq
  · intro a e ha
    have h7 := hM.2.2.2 a e ha
    exact ⟨h7.1, h7.2.kept (hold a (by rw [hz, hM.1]; exact h7.2.lt))⟩
end PGT
