/-! CONSTRUCTORS: cells that grow from z on -/
def fset (f : Nat → px_E) (k : Nat) (e : px_E) : Nat → px_E := fun j => if j = k then e else f j
/-- m cells from z on are made, they are the heap's last, and below z nothing changed -/
def CB (z m : Nat) (f : Nat → px_E) (π0 π : px_H) : Prop := px_blk z m f π ∧ π.1 = z + m ∧ ∀ a, a < z → π.2 a = π0.2 a
section CBS
variable {Γ : px_Cm} {G : px_Cg} {Q : State → Prop} {cc : ByteArray} {own : String} {w : Bool} {nc ns pc q z m : Nat} {ls : List (Option Value)} {st : List Value} {π π0 : px_H} {f : Nat → px_E}
theorem CB.nw (C : CB z m f π0 π) {e : px_E} : CB z (m + 1) (fset f m e) π0 (px_nw π e) := by
  obtain ⟨c1, c2, c3⟩ := C
  refine ⟨fun k hk => ?_, by show π.1 + 1 = _; omega, fun a ha => ?_⟩
  · unfold fset
    by_cases hkm : k = m
    · subst hkm
      rw [if_pos rfl, ← c2]
      exact px_nw_self
    · rw [if_neg hkm, px_nw_ne (by omega)]
      exact c1 k (by omega)
  · rw [px_nw_ne (by omega)]
    exact c3 a ha
theorem CB.wr (C : CB z m f π0 π) {k : Nat} (hk : k < m) {e : px_E} : CB z m (fset f k e) π0 (px_wr π (z + k) e) := by
  obtain ⟨c1, c2, c3⟩ := C
  refine ⟨px_blk.wr c1 hk (by simp [fset]) (fun j _ hj => by simp [fset, hj]), c2, fun a ha => ?_⟩
  rw [px_wr_ne (by omega)]
  exact c3 a ha
theorem CB.at (C : CB z m f π0 π) {k : Nat} (hk : k < m) {e : px_E} (he : f k = e) : π.2 (z + k) = some e := by rw [← he]; exact C.1 k hk
theorem pn_obj (X : px_X Γ G cc own) {idx a : Nat} (hlink : Cond.methodLink own idx Lib.objectInit ∈ G.Ts) (hinst : Cond.instanceMethod Lib.objectInit ∈ G.Ts) (hcode : Cond.code Lib.objectInit ⟨#[0xb1]⟩ 1 none ∈ G.Ts) (hd : px_D cc pc (.invokespecial idx) 3 q) (hf : 1 ≤ Γ.R.frames) (hl : (st.map fun v => v.category).sum + 12 ≤ Γ.R.locals) (kk : px_G Γ G Q w nc ns q ls st π) : px_G Γ G Q w nc ns pc ls (.ref a :: st) π := by
  obtain ⟨hd, rfl⟩ := hd
  intro H lsA locs hL hM hl'
  refine W.objInit X.1 X.2.1 X.2.2.1 (X.word hlink) (X.word hinst) (X.word hcode) rfl hL.1 rfl hd hf ?_ (kk H lsA locs hL hM hl')
  show 2 * 0 + (st.map fun v => v.category).sum + 12 ≤ Γ.R.locals
  omega
theorem pn_newa (X : px_X Γ G cc own) (C : CB z m f π0 π) {atype : ArrayType} {ty : FieldType} (hty : newarray.typeOf atype = ty) (hty2 : ty = .int ∨ ty = .boolean) (hw : Cond.arrayClass ty ∈ G.Ts) {n : Int32} {N : Nat} (hd : px_D cc pc (.newarray atype) 2 q) (hn : ¬ n < 0) (hN : n.toNatClampNeg = N) (hb : N ≤ 65536) (hcells : nc + 1 ≤ Γ.R.cells) (hslots : ns + N ≤ Γ.R.slots)
    (kk : ∀ π1, CB z (m + 1) (fset f m (.inl (ty, N, .inl (fun _ => 0)))) π0 π1 → px_G Γ G Q w (nc + 1) (ns + N) q ls (.ref (z + m) :: st) π1) : px_G Γ G Q w nc ns pc ls (.int n :: st) π := by
  have k2 := kk _ C.nw
  rw [← C.2.1] at k2
  exact pg_newa X hty hty2 hw hd hn hN hb hcells hslots k2
theorem pn_anew (X : px_X Γ G cc own) (C : CB z m f π0 π) {index : Nat} {cls : String} (hw : Cond.classLink own index cls ∈ G.Ts) (hw2 : Cond.arrayOver (.object cls) ∈ G.Ts) {n : Int32} {N : Nat} (hd : px_D cc pc (.anewarray index) 3 q) (hn : ¬ n < 0) (hN : n.toNatClampNeg = N) (hb : N ≤ 65536) (hcells : nc + 1 ≤ Γ.R.cells) (hslots : ns + N ≤ Γ.R.slots)
    (kk : ∀ π1, CB z (m + 1) (fset f m (.inl (.object cls, N, .inr (.inl (fun _ => none))))) π0 π1 → px_G Γ G Q w (nc + 1) (ns + N) q ls (.ref (z + m) :: st) π1) : px_G Γ G Q w nc ns pc ls (.int n :: st) π := by
  have k2 := kk _ C.nw
  rw [← C.2.1] at k2
  exact pg_anew X hw (X.word hw2) hd hn hN hb hcells hslots k2
theorem pn_put (X : px_X Γ G cc own) (C : CB z m f π0 π) {index ci k j : Nat} {fs : List Value} {v : Value} {ty0 : Nat → FieldType} (hF : px_FW G.Ts G.cl own index ci k) (hT : px_CT G.cl ci ty0) (hfin : px_nf G.cl ci k false) (hn : narrow (ty0 k) v = v) (hfit : fits (ty0 k) v = true) (hd : px_D cc pc (.putfield index) 3 q) (hj : j < m) (hfs : f j = .inr (ci, fs))
    (kk : ∀ π1, CB z m (fset f j (.inr (ci, fs.set k v))) π0 π1 → px_G Γ G Q true nc ns q ls st π1) : px_G Γ G Q true nc ns pc ls (v :: .ref (z + j) :: st) π :=
  pg_putf X hF hT hfin hn hfit hd (C.at hj hfs) (kk _ (C.wr hj))
theorem pn_puF (X : px_X Γ G cc own) (C : CB z m f π0 π) {index ci k j : Nat} {fs : List Value} {v : Value} {ty0 : Nat → FieldType} (hF : px_FW G.Ts G.cl own index ci k) (hT : px_CT G.cl ci ty0) (hfin : px_nf G.cl ci k true) (hin2 : Γ.meth.name = "<init>") (hoc : ∀ x, G.cl[ci]? = some x → x.1 = own) (hn : narrow (ty0 k) v = v) (hfit : fits (ty0 k) v = true) (hd : px_D cc pc (.putfield index) 3 q) (hj : j < m) (hfs : f j = .inr (ci, fs))
    (hnn : Cond.fieldLink own index own (((G.cl[ci]?.getD ("", fun _ => ("", "", "", false), 0)).2.1 k).2.1) (((G.cl[ci]?.getD ("", fun _ => ("", "", "", false), 0)).2.1 k).2.2.1) ∈ G.Ts)
    (kk : ∀ π1, CB z m (fset f j (.inr (ci, fs.set k v))) π0 π1 → px_G Γ G Q true nc ns q ls st π1) : px_G Γ G Q true nc ns pc ls (v :: .ref (z + j) :: st) π :=
  pg_putF X hF hT hfin hin2 hoc hn hfit hd (C.at hj hfs) (kk _ (C.wr hj)) hnn
theorem pn_get (X : px_X Γ G cc own) (C : CB z m f π0 π) {index ci k j : Nat} {fs : List Value} {v : Value} (hF : px_FW G.Ts G.cl own index ci k) (hd : px_D cc pc (.getfield index) 3 q) (hj : j < m) (hfs : f j = .inr (ci, fs)) (hv : fs[k]? = some v) (kk : px_G Γ G Q w nc ns q ls (v :: st) π) : px_G Γ G Q w nc ns pc ls (.ref (z + j) :: st) π :=
  pg_getf X hF hd (px_rd_of (C.at hj hfs)) hv kk
/-- m1 cells of arrays of arrays: the outer one, then its rows -/
def fmul (f : Nat → px_E) (z m N K : Nat) : Nat → px_E := fun j => if j < m then f j else if j = m then .inl (.array .int, N, .inr (.inl (fun i => some (z + m + 1 + i)))) else .inl (.int, K, .inl (fun _ => 0))
theorem pn_mna (X : px_X Γ G cc own) (C : CB z m f π0 π) {index : Nat} (hw1 : Cond.classLink own index "[[I" ∈ G.Ts) (hw2 : Cond.arrayOver (.array .int) ∈ G.Ts) (hw3 : Cond.arrayClass .int ∈ G.Ts) {n k : Int32} {N K : Nat} (hd : px_D cc pc (.multianewarray index 2) 4 q) (hn : ¬ n < 0) (hk : ¬ k < 0) (hN : n.toNatClampNeg = N) (hK : k.toNatClampNeg = K) (hb : N ≤ 65536) (hb2 : K ≤ 65536) (hcells : nc + (1 + N) ≤ Γ.R.cells) (hslots : ns + (N + N * K) ≤ Γ.R.slots)
    (kk : ∀ π1, CB z (m + 1 + N) (fmul f z m N K) π0 π1 → px_G Γ G Q w (nc + 1 + N) (ns + N + N * K) q ls (.ref (z + m) :: st) π1) : px_G Γ G Q w nc ns pc ls (.int k :: .int n :: st) π := by
  obtain ⟨hd, rfl⟩ := hd
  subst hN
  subst hK
  intro H lsA locs hL hM hl
  intro T hT Xs
  obtain ⟨vm₁, cA, comp, -, fA, fC, hO, hI, X', step⟩ := Xs.multianewarray2F X.1 X.2.2.1 (ty := .int) (X.word hw1) (X.word hw2) (X.word hw3) (g := F0 Γ.m pc lsA (.int k :: .int n :: st)) rfl (by rw [X.2.1]; exact hd) rfl hn hk (by omega) (by show k.toNatClampNeg * 4 ≤ _; omega) (by omega) rfl rfl hcells hslots
  generalize hF : Jvm.Free.Multi.fill (T.setVm vm₁) cA comp n.toNatClampNeg k.toNatClampNeg (defaultValue .int) n.toNatClampNeg = F at X' step
  have hTh : (T.setVm vm₁).heap = H := hT
  obtain ⟨f1, f2, -, -⟩ := Jvm.Free.Multi.fill_facts (T.setVm vm₁) cA comp n.toNatClampNeg k.toNatClampNeg (defaultValue .int) n.toNatClampNeg
  rw [hF, hTh] at f1 f2
  have hold : ∀ x : Nat, x < H.size → F.heap[x]? = H[x]? := fun x hx => by
    have := Jvm.Free.Multi.fill_old (T.setVm vm₁) cA comp n.toNatClampNeg k.toNatClampNeg (defaultValue .int) (a := x) (by rw [hTh]; exact hx) n.toNatClampNeg
    rw [hF, hTh] at this
    exact this
  have hrow : ∀ j : Nat, j < n.toNatClampNeg → F.heap[H.size + 1 + j]? = some (Jvm.Free.Multi.innerC comp k.toNatClampNeg (.int 0)) := fun j hj => by
    have := Jvm.Free.Multi.fill_inner (T.setVm vm₁) cA comp n.toNatClampNeg k.toNatClampNeg (defaultValue .int) n.toNatClampNeg j hj
    rw [hF, hTh] at this
    exact this
  obtain ⟨c1, c2, c3⟩ := C
  obtain ⟨m1, m2, m3, m4⟩ := hM
  have hHz : H.size = z + m := m1.symm.trans c2
  have hslot : ∀ i N h0 j, j < N → (Jvm.Free.Multi.outerC cA N h0 i).slots[j]? = some (if j < i then .ref (h0 + 1 + j) else .null) := by
    intro i
    induction i with
    | zero =>
      intro N h0 j hj
      show (Array.replicate N Value.null)[j]? = _
      rw [Array.getElem?_replicate, if_pos hj, if_neg (Nat.not_lt_zero _)]
    | succ i ih =>
      intro N h0 j hj
      have hsz := (Jvm.Free.Multi.outerC_facts cA N h0 i).2.2
      show ((Jvm.Free.Multi.outerC cA N h0 i).slots.setIfInBounds i (.ref (h0 + 1 + i)))[j]? = _
      by_cases e : j = i
      · subst e
        rw [Array.getElem?_setIfInBounds_self_of_lt (by rw [hsz]; exact hj), if_pos (by omega)]
      · rw [Array.getElem?_setIfInBounds_ne (fun h => e h.symm), ih N h0 j hj]
        by_cases h : j < i
        · rw [if_pos h, if_pos (by omega)]
        · rw [if_neg h, if_neg (by omega)]
  let π1 : px_H := (π.1 + 1 + n.toNatClampNeg, fun a => if a < z + m then π.2 a else if a < z + m + 1 + n.toNatClampNeg then some (fmul f z m n.toNatClampNeg k.toNatClampNeg (a - z)) else π.2 a)
  have hC1 : CB z (m + 1 + n.toNatClampNeg) (fmul f z m n.toNatClampNeg k.toNatClampNeg) π0 π1 := by
    refine ⟨fun j hj => ?_, by show π.1 + 1 + n.toNatClampNeg = _; omega, fun a ha => ?_⟩
    · show (if z + j < z + m then π.2 (z + j) else if z + j < z + m + 1 + n.toNatClampNeg then some (fmul f z m n.toNatClampNeg k.toNatClampNeg (z + j - z)) else π.2 (z + j)) = _
      by_cases h : j < m
      · rw [if_pos (by omega), c1 j h]
        simp [fmul, h]
      · rw [if_neg (by omega), if_pos (by omega), show z + j - z = j by omega]
    · show (if a < z + m then π.2 a else _) = _
      rw [if_pos (by omega)]
      exact c3 a ha
  have hM1 : px_M G.S0 G.D G.cl G.z0 π1 F.heap := by
    refine ⟨by show π.1 + 1 + n.toNatClampNeg = _; rw [f1]; omega, by rw [f1]; omega, fun x hx => (hold x (by omega)).trans (m3 x hx), fun a e he => ?_⟩
    have he' : (if a < z + m then π.2 a else if a < z + m + 1 + n.toNatClampNeg then some (fmul f z m n.toNatClampNeg k.toNatClampNeg (a - z)) else π.2 a) = some e := he
    by_cases h : a < z + m
    · rw [if_pos h] at he'
      exact ⟨(m4 a e he').1, (m4 a e he').2.kept (hold a (by omega))⟩
    · rw [if_neg h] at he'
      by_cases h2 : a < z + m + 1 + n.toNatClampNeg
      · rw [if_pos h2] at he'
        refine ⟨by omega, ?_⟩
        by_cases h3 : a = z + m
        · subst h3
          rw [show z + m - z = m by omega] at he'
          unfold fmul at he'
          rw [if_neg (by omega), if_pos rfl] at he'
          cases he'
          have ho := hO n.toNatClampNeg H.size n.toNatClampNeg
          refine ⟨_, by rw [← hHz]; exact f2, State.isArrayOf_alike X.al.symm ho.1, ?_, ho.2, (Jvm.Free.Multi.outerC_facts cA _ _ _).2.2, fun j hj => ?_⟩
          · rw [(Jvm.Free.Multi.outerC_facts cA _ _ _).1]
            exact va_RA.moved (u := Γ.s) X.al.symm fA
          · have hj' : j < n.toNatClampNeg := hj
            rw [hslot _ _ _ j hj', if_pos hj', hHz]
            rfl
        · unfold fmul at he'
          rw [if_neg (by omega), if_neg (by omega)] at he'
          cases he'
          have hr := hrow (a - (z + m + 1)) (by omega)
          rw [hHz, show z + m + 1 + (a - (z + m + 1)) = a by omega] at hr
          have hi := hI k.toNatClampNeg (.int 0)
          refine ⟨_, hr, State.isArrayOf_alike X.al.symm hi.1, ?_, hi.2, by show (Array.replicate _ _).size = _; rw [Array.size_replicate], fun j hj => ?_⟩
          · exact va_RA.moved (u := Γ.s) (ty := .int) X.al.symm fC
          · show (Array.replicate _ _)[j]? = _
            rw [Array.getElem?_replicate, if_pos hj]
            rfl
      · rw [if_neg h2] at he'
        have := (m4 a e he').2.lt
        omega
  obtain ⟨t, a1, b1⟩ := kk π1 hC1 F.heap lsA locs hL hM1 hl F rfl X'
  refine ⟨t, step t ?_, b1⟩
  have e : T.heap.size = z + m := by rw [hT]; exact hHz
  rw [e]
  exact a1
theorem pn_new (X : px_X Γ G cc own) (C : CB z m f π0 π) {index ci : Nat} {cls : String} {T : u_T} {N : Nat} {ty0 : Nat → FieldType} {fs : List Value} (hc : G.cl[ci]? = some (cls, T, N)) (hin : ∀ w ∈ u_ws cls T N, w ∈ G.Ts) (hty : ∀ k, k < N → parseFieldDescriptor (T k).2.2.1 = some (ty0 k)) (hw : Cond.classLink own index cls ∈ G.Ts) (hw2 : Cond.instantiable cls N ∈ G.Ts) (hw3 : Cond.initialized cls ∈ G.Ts) (hd : px_D cc pc (.new index) 3 q) (hlen : fs.length = N) (hfs : ∀ j, j < N → defaultValue (ty0 j) = vp_V fs j) (hcells : nc + 1 ≤ Γ.R.cells) (hslots : ns + N ≤ Γ.R.slots)
    (kk : ∀ π1, CB z (m + 1) (fset f m (.inr (ci, fs))) π0 π1 → px_G Γ G Q w (nc + 1) (ns + N) q ls (.ref (z + m) :: st) π1) : px_G Γ G Q w nc ns pc ls st π := by
  have k2 := kk _ C.nw
  rw [← C.2.1] at k2
  exact pg_new X hc hin hty hw hw2 hw3 hd hlen hfs hcells hslots k2
end CBS
