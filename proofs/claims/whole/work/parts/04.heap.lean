/-! HEAP RULES: fields, arrays, new cells -/
def px_FW (Ts : List Cond) (cl : List vw_C) (own : String) (index ci k : Nat) : Prop := ∃ (C : String) (T : u_T) (N : Nat), cl[ci]? = some (C, T, N) ∧ k < N ∧ (T k).1 = C ∧ (∀ w ∈ u_ws C T N, w ∈ Ts) ∧
  (Cond.fieldLink own index C (T k).2.1 (T k).2.2.1 ∈ Ts ∨ ∃ host, Cond.fieldLinkNest own index C (T k).2.1 (T k).2.2.1 host ∈ Ts)
def px_CT (cl : List vw_C) (ci : Nat) (ty : Nat → FieldType) : Prop := ∃ (C : String) (T : u_T) (N : Nat), cl[ci]? = some (C, T, N) ∧ (∀ k, k < N → parseFieldDescriptor (T k).2.2.1 = some (ty k)) ∧ ∀ a, a < N → ∀ b, b < N → a ≠ b → (T a).2.1 ≠ (T b).2.1
def px_nf (cl : List vw_C) (ci k : Nat) (fin : Bool) : Prop := ∃ (C : String) (T : u_T) (N : Nat), cl[ci]? = some (C, T, N) ∧ (T k).2.2.2 = fin
section PGH
variable {Γ : px_Cm} {G : px_Cg} {Q : State → Prop} {cc : ByteArray} {own : String} {w : Bool} {nc ns pc q : Nat} {ls : List (Option Value)} {st : List Value} {π : px_H}
theorem pg_getf (X : px_X Γ G cc own) {index ci k a : Nat} {fs : List Value} {v : Value} (hF : px_FW G.Ts G.cl own index ci k) (hd : px_D cc pc (.getfield index) 3 q) (hr : px_rd G.ρ π a (.inr (ci, fs))) (hv : fs[k]? = some v) (kk : px_G Γ G Q w nc ns q ls (v :: st) π) : px_G Γ G Q w nc ns pc ls (.ref a :: st) π := by
  obtain ⟨hd, rfl⟩ := hd
  obtain ⟨C, T, N, hc, hk, hTC, hin, hlink⟩ := hF
  intro H lsA locs hL hM hl
  obtain ⟨r, h1, h2, cell, q1, q2, q3, q4⟩ := X.rd hM hr
  have hr' : r = (C, T, N) := Option.some.inj (h1.symm.trans hc)
  subst hr'
  obtain ⟨hS, hfc, kC, hkC, hkind⟩ := X.K.1 ci _ hc
  obtain ⟨cf, kf, fi, f, hi, hsl⟩ := hS k hk
  dsimp only at hi hfc
  have hts : ∀ w ∈ u_ws C T N, w.before Γ.args Γ.s = true := fun w hw => X.word (hin w hw)
  have hfa := u_facts hfc hkC (u_lays hts (fun w h => h) hk) hi
  rw [hTC] at hi
  have hslot : cell.slots[f.slot]? = some v := by
    rw [hsl, q4 k hk]
    simp [vp_V, hv]
  rcases hlink with hlink | ⟨host, hlink⟩
  · exact W.getf X.1 X.2.1 X.2.2.1 (X.word hlink) hi hfa.1 q1 (by rw [q3]; exact fun h => by cases h) hslot rfl rfl hd (kk H lsA locs hL hM hl)
  · exact va_Wgetf X.1 X.2.1 X.2.2.1 (X.word hlink) hi hfa.1 q1 (by rw [q3]; exact fun h => by cases h) hslot rfl rfl hd (kk H lsA locs hL hM hl)
theorem pg_putf (X : px_X Γ G cc own) {index ci k a : Nat} {fs : List Value} {v : Value} {ty0 : Nat → FieldType} (hF : px_FW G.Ts G.cl own index ci k) (hT : px_CT G.cl ci ty0) (hfin : px_nf G.cl ci k false) (hn : narrow (ty0 k) v = v) (hfit : fits (ty0 k) v = true) (hd : px_D cc pc (.putfield index) 3 q) (hr : π.2 a = some (.inr (ci, fs))) (kk : px_G Γ G Q true nc ns q ls st (px_wr π a (.inr (ci, fs.set k v)))) : px_G Γ G Q true nc ns pc ls (v :: .ref a :: st) π := by
  obtain ⟨hd, rfl⟩ := hd
  obtain ⟨C, T, N, hc, hk, hTC, hin, hlink⟩ := hF
  obtain ⟨C1, T1, N1, hc1, hty, hnm⟩ := hT
  cases Option.some.inj (hc.symm.trans hc1)
  obtain ⟨C2, T2, N2, hc2, hf2⟩ := hfin
  cases Option.some.inj (hc.symm.trans hc2)
  intro H lsA locs hL hM hl
  obtain ⟨r, h1, h2, cell, q1, q2, q3, q4⟩ := (hM.2.2.2 a _ hr).2
  have hza := (hM.2.2.2 a _ hr).1
  have hr' : r = (C, T, N) := Option.some.inj (h1.symm.trans hc)
  subst hr'
  dsimp only at h2 q2 q4
  have hts : ∀ w ∈ u_ws C T N, w.before Γ.args Γ.s = true := fun w hw => X.word (hin w hw)
  have hap := va_apart (own := own) hts (fun w h => h) ty0 hty hnm X.K hc
  obtain ⟨hS, hfc, kC, hkC, hkind⟩ := X.K.1 ci _ hc
  obtain ⟨cf, kf, fi, f, hi, hsl⟩ := hS k hk
  dsimp only at hi hfc
  have hst := (u_facts hfc hkC (u_lays hts (fun w h => h) hk) hi).1
  have hlay := hts _ (u_in_lay hk)
  unfold u_lay at hlay
  rw [if_neg (by rw [hf2]; decide)] at hlay
  have h6 := u_store hfc hkC hkind hlay hi (hty k hk) hn hfit
  rw [hTC] at hi
  have go : ∀ H' : Heap, H'[a]? = some (cell.setSlot f.slot v) → H'.size = H.size → (∀ q, q ≠ a → H'[q]? = H[q]?) → W Γ.p Γ.l Γ.e Γ.R Γ.s Γ.m Γ.args Γ.below Γ.meth Γ.c H' (locs ++ [⟨a, f.slot⟩]) nc ns Q (F0 Γ.m (pc + 3) lsA st) := by
    intro H' e1 e2 e3
    rw [hsl] at e1
    refine kk H' lsA _ hL (hM.wr hr ⟨_, hc, by rw [List.length_set]; exact h2, t_OB.to (V := updV (vp_V fs) k v) ⟨_, e1, q2, q3, t_set q4 hap hk v⟩ (fun j _ => vp_updV_set (by rw [h2]; exact hk) v j)⟩ e2 e3) ?_
    intro x hx
    rcases List.mem_append.mp hx with h | h
    · exact hl x h
    · rw [List.mem_singleton.mp h]
      exact ⟨rfl, hza⟩
  rcases hlink with hlink | ⟨host, hlink⟩
  · exact W.putK X.1 X.2.1 (f := f) ⟨X.2.2.1, X.word hlink, ⟨_, _, _, hi⟩, hst⟩ (by rw [q2]; exact h6) q1 q3 (by rw [hsl]; exact k2_hasslot (q4 k hk)) rfl rfl hd go
  · exact va_WputK X.1 X.2.1 (f := f) X.2.2.1 (X.word hlink) hi hst (by rw [q2]; exact h6) q1 q3 (by rw [hsl]; exact k2_hasslot (q4 k hk)) rfl rfl hd go
/-- a final field in a constructor of its own class -/
theorem pg_putF (X : px_X Γ G cc own) {index ci k a : Nat} {fs : List Value} {v : Value} {ty0 : Nat → FieldType} (hF : px_FW G.Ts G.cl own index ci k) (hT : px_CT G.cl ci ty0) (hfin : px_nf G.cl ci k true) (hin2 : Γ.meth.name = "<init>") (hoc : ∀ x, G.cl[ci]? = some x → x.1 = own) (hn : narrow (ty0 k) v = v) (hfit : fits (ty0 k) v = true) (hd : px_D cc pc (.putfield index) 3 q) (hr : π.2 a = some (.inr (ci, fs))) (kk : px_G Γ G Q true nc ns q ls st (px_wr π a (.inr (ci, fs.set k v)))) (hnn : Cond.fieldLink own index own (((G.cl[ci]?.getD ("", fun _ => ("", "", "", false), 0)).2.1 k).2.1) (((G.cl[ci]?.getD ("", fun _ => ("", "", "", false), 0)).2.1 k).2.2.1) ∈ G.Ts) : px_G Γ G Q true nc ns pc ls (v :: .ref a :: st) π := by
  obtain ⟨hd, rfl⟩ := hd
  obtain ⟨C, T, N, hc, hk, hTC, hin, -⟩ := hF
  obtain ⟨C1, T1, N1, hc1, hty, hnm⟩ := hT
  cases Option.some.inj (hc.symm.trans hc1)
  obtain ⟨C2, T2, N2, hc2, hf2⟩ := hfin
  cases Option.some.inj (hc.symm.trans hc2)
  have hCo : C = own := hoc _ hc
  subst hCo
  rw [hc] at hnn
  dsimp only [Option.getD_some] at hnn
  intro H lsA locs hL hM hl
  obtain ⟨r, h1, h2, cell, q1, q2, q3, q4⟩ := (hM.2.2.2 a _ hr).2
  have hza := (hM.2.2.2 a _ hr).1
  have hr' : r = (C, T, N) := Option.some.inj (h1.symm.trans hc)
  subst hr'
  dsimp only at h2 q2 q4
  have hts : ∀ w ∈ u_ws C T N, w.before Γ.args Γ.s = true := fun w hw => X.word (hin w hw)
  have hap := va_apart (own := C) hts (fun w h => h) ty0 hty hnm X.K hc
  obtain ⟨hS, hfc, kC, hkC, hkind⟩ := X.K.1 ci _ hc
  obtain ⟨cf, kf, fi, f, hi, hsl⟩ := hS k hk
  dsimp only at hi hfc
  have hst := (u_facts hfc hkC (u_lays hts (fun w h => h) hk) hi).1
  have hlay := hts _ (u_in_lay hk)
  unfold u_lay at hlay
  rw [if_pos hf2] at hlay
  have h6 := u_fits hfc hkC hkind (Or.inr hlay) hi (hty k hk) hn hfit
  have hcf : Γ.m.cls = cf := by
    obtain ⟨_, _, c', _, _, _, -, -, hf', -, -, -, hown2, -⟩ := Cond.laysFinal_spec hlay
    have e1 : c' = cf := by have := hi.symm.trans hf'; simp at this; exact this.1.symm
    rw [hTC] at hown2
    rw [← e1]
    exact Option.some.inj (X.2.2.1.symm.trans hown2)
  rw [hTC] at hi
  refine W.putFinK X.1 X.2.1 X.2.2.1 (X.word hnn) hi hst hcf hin2 (by rw [q2]; exact h6) q1 q3 (by rw [hsl]; exact k2_hasslot (q4 k hk)) rfl rfl hd fun H' e1 e2 e3 => ?_
  rw [hsl] at e1
  refine kk H' lsA _ hL (hM.wr hr ⟨_, hc, by rw [List.length_set]; exact h2, t_OB.to (V := updV (vp_V fs) k v) ⟨_, e1, q2, q3, t_set q4 hap hk v⟩ (fun j _ => vp_updV_set (by rw [h2]; exact hk) v j)⟩ e2 e3) ?_
  intro x hx
  rcases List.mem_append.mp hx with h | h
  · exact hl x h
  · rw [List.mem_singleton.mp h]
    exact ⟨rfl, hza⟩
theorem px_lt_in {i : Int32} {n : Nat} (h : vp_in i n) : i.toNatClampNeg < n := Nat.not_le.mp fun z => h (Or.inr z)
theorem px_inw {i : Int32} {n k : Nat} (hk : n ≤ k) (h : vp_in i n) : vp_in i k := fun z => h (z.imp (fun y => y) (fun y => Nat.le_trans hk y))
theorem pg_alen (X : px_X Γ G cc own) {a n : Nat} {ty : FieldType} {f : px_V} (hd : px_D cc pc .arraylength 1 q) (hr : px_rd G.ρ π a (.inl (ty, n, f))) (kk : px_G Γ G Q w nc ns q ls (.int (nI n) :: st) π) : px_G Γ G Q w nc ns pc ls (.ref a :: st) π := by
  obtain ⟨hd, rfl⟩ := hd
  intro H lsA locs hL hM hl
  obtain ⟨cell, h1, h2, h3, h4, h5, h6⟩ := X.rd hM hr
  exact W.alen X.1 X.2.1 h1 h2 (by first | exact h5.2 | (rw [h5.2]; rfl) | rw [h5.2]) rfl rfl hd (kk H lsA locs hL hM hl)
theorem pg_iald (X : px_X Γ G cc own) {a n : Nat} {f : Nat → Int32} {i : Int32} (hd : px_D cc pc .iaload 1 q) (hr : px_rd G.ρ π a (.inl (.int, n, .inl f))) (hin : vp_in i n) (kk : px_G Γ G Q w nc ns q ls (.int (f i.toNatClampNeg) :: st) π) : px_G Γ G Q w nc ns pc ls (.int i :: .ref a :: st) π := by
  obtain ⟨hd, rfl⟩ := hd
  intro H lsA locs hL hM hl
  obtain ⟨cell, h1, h2, h3, h4, h5, h6⟩ := X.rd hM hr
  exact W.iald X.1 X.2.1 h1 h2 h4 (px_inw h5.1 hin) (h6 _ (px_lt_in hin)) rfl rfl hd (kk H lsA locs hL hM hl)
theorem pg_zald (X : px_X Γ G cc own) {a n : Nat} {f : Nat → Int32} {i : Int32} (hd : px_D cc pc .baload 1 q) (hr : px_rd G.ρ π a (.inl (.boolean, n, .inl f))) (hin : vp_in i n) (kk : px_G Γ G Q w nc ns q ls (.int (f i.toNatClampNeg) :: st) π) : px_G Γ G Q w nc ns pc ls (.int i :: .ref a :: st) π := by
  obtain ⟨hd, rfl⟩ := hd
  intro H lsA locs hL hM hl
  obtain ⟨cell, h1, h2, h3, h4, h5, h6⟩ := X.rd hM hr
  exact W.zald X.1 X.2.1 h1 h2 h4 (px_inw h5.1 hin) (h6 _ (px_lt_in hin)) rfl rfl hd (kk H lsA locs hL hM hl)
theorem pg_aald (X : px_X Γ G cc own) {a n : Nat} {ty : FieldType} {f : Nat → Option Nat} {i : Int32} (hd : px_D cc pc .aaload 1 q) (hr : px_rd G.ρ π a (.inl (ty, n, .inr (.inl f)))) (hty : ty.isReference = true) (hin : vp_in i n) (kk : px_G Γ G Q w nc ns q ls (va_rf (f i.toNatClampNeg) :: st) π) : px_G Γ G Q w nc ns pc ls (.int i :: .ref a :: st) π := by
  obtain ⟨hd, rfl⟩ := hd
  intro H lsA locs hL hM hl
  obtain ⟨cell, h1, h2, h3, h4, h5, h6⟩ := X.rd hM hr
  exact W.aald X.1 X.2.1 h1 h2 hty h4 (px_inw h5.1 hin) (h6 _ (px_lt_in hin)) rfl rfl hd (kk H lsA locs hL hM hl)
theorem px_at_ast {D : va_G} {cl : List vw_C} {s : State} {a n j : Nat} {ty : FieldType} {c1 c2 : px_V} {cell : Cell} {v : Value} {H' : Heap} (h2 : s.isArrayOf cell ty) (h3 : va_RA s cell.cls ty) (h4 : cell.vm ≠ .unknown) (h5 : cell.slots.size = n) (h6 : ∀ j : Nat, j < n → cell.slots[j]? = some (px_con c1 j)) (e1 : H'[a]? = some (cell.setSlot j v)) (hj : j < n) (hv : px_con c2 j = v) (ho : ∀ i, i ≠ j → px_con c2 i = px_con c1 i) : px_at D cl s a (.inl (ty, n, c2)) H' := by
  refine ⟨cell.setSlot j v, e1, h2, h3, h4, by rw [k2_slotsz]; exact h5, fun i hi => ?_⟩
  by_cases hij : i = j
  · subst hij
    show (cell.slots.setIfInBounds i v)[i]? = _
    rw [Array.getElem?_setIfInBounds_self_of_lt (by rw [h5]; exact hi)]
    exact congrArg some hv.symm
  · show (cell.slots.setIfInBounds j v)[i]? = _
    rw [Array.getElem?_setIfInBounds_ne (fun h => hij h.symm), h6 i hi]
    exact congrArg some (ho i hij).symm
theorem pg_iast (X : px_X Γ G cc own) {a n : Nat} {f : Nat → Int32} {i x : Int32} (hd : px_D cc pc .iastore 1 q) (hr : π.2 a = some (.inl (.int, n, .inl f))) (hin : vp_in i n) (kk : px_G Γ G Q true nc ns q ls st (px_wr π a (.inl (.int, n, .inl (upd f i.toNatClampNeg x))))) : px_G Γ G Q true nc ns pc ls (.int x :: .int i :: .ref a :: st) π := by
  obtain ⟨hd, rfl⟩ := hd
  intro H lsA locs hL hM hl
  obtain ⟨hza, cell, h1, h2, h3, h4, h5, h6⟩ := hM.2.2.2 a _ hr
  refine W.iast X.1 X.2.1 h1 (State.isArrayOf_alike X.al h2) h4 (by rw [h5]; exact hin) rfl rfl hd fun H' e1 e2 e3 => ?_
  refine kk H' lsA _ hL (hM.wr hr (px_at_ast h2 h3 h4 h5 h6 e1 (px_lt_in hin) (by simp [px_con, upd]) (fun j hj => by simp [px_con, upd, hj])) e2 e3) ?_
  intro x hx
  rcases List.mem_append.mp hx with h | h
  · exact hl x h
  · rw [List.mem_singleton.mp h]
    exact ⟨rfl, hza⟩
theorem pg_zast (X : px_X Γ G cc own) {a n : Nat} {f : Nat → Int32} {i x : Int32} (hd : px_D cc pc .bastore 1 q) (hr : π.2 a = some (.inl (.boolean, n, .inl f))) (hin : vp_in i n) (hx : narrow .boolean (.int x) = .int x) (kk : px_G Γ G Q true nc ns q ls st (px_wr π a (.inl (.boolean, n, .inl (upd f i.toNatClampNeg x))))) : px_G Γ G Q true nc ns pc ls (.int x :: .int i :: .ref a :: st) π := by
  obtain ⟨hd, rfl⟩ := hd
  intro H lsA locs hL hM hl
  obtain ⟨hza, cell, h1, h2, h3, h4, h5, h6⟩ := hM.2.2.2 a _ hr
  refine W.zast X.1 X.2.1 h1 (State.isArrayOf_alike X.al h2) h4 (by rw [h5]; exact hin) rfl rfl hd fun H' e1 e2 e3 => ?_
  rw [hx] at e1
  refine kk H' lsA _ hL (hM.wr hr (px_at_ast h2 h3 h4 h5 h6 e1 (px_lt_in hin) (by simp [px_con, upd]) (fun j hj => by simp [px_con, upd, hj])) e2 e3) ?_
  intro x hx
  rcases List.mem_append.mp hx with h | h
  · exact hl x h
  · rw [List.mem_singleton.mp h]
    exact ⟨rfl, hza⟩
theorem pg_aast (X : px_X Γ G cc own) {a n v ci : Nat} {fs : List Value} {r : vw_C} {f : Nat → Option Nat} {i : Int32} (hd : px_D cc pc .aastore 1 q) (hr : π.2 a = some (.inl (.object r.1, n, .inr (.inl f)))) (hin : vp_in i n) (hv : px_rd G.ρ π v (.inr (ci, fs))) (hc : G.cl[ci]? = some r) (kk : px_G Γ G Q true nc ns q ls st (px_wr π a (.inl (.object r.1, n, .inr (.inl (va_up f i.toNatClampNeg (some v))))))) : px_G Γ G Q true nc ns pc ls (.ref v :: .int i :: .ref a :: st) π := by
  obtain ⟨hd, rfl⟩ := hd
  intro H lsA locs hL hM hl
  obtain ⟨hza, cell, h1, h2, h3, h4, h5, h6⟩ := hM.2.2.2 a _ hr
  obtain ⟨r', hr', -, cellV, g1, g2, g3, -⟩ := X.rd hM hv
  have hcls := (X.K.1 ci r hc).2
  obtain ⟨kA, comp, k1, k2, k3, -⟩ := (va_RA.moved X.al h3 : va_RA Γ.s cell.cls (.object r.1))
  have hcomp : comp = G.D.1 ci := Option.some.inj (k3.symm.trans hcls.1)
  subst hcomp
  obtain ⟨kC, hkC, -⟩ := hcls.2
  refine W.aast X.1 X.2.1 h1 h2.1 h4 k1 k2 rfl hkC ⟨fun z => hin (Or.inl z), by rw [h5]; exact px_lt_in hin⟩ g1 (fun q h => by rw [g3] at h; cases h) (by rw [g2]; exact hkC) (by rw [g2]; exact va_assign hcls) rfl rfl hd fun H' e1 e2 e3 => ?_
  refine kk H' lsA _ hL (hM.wr hr (px_at_ast h2 h3 h4 h5 h6 e1 (px_lt_in hin) (by simp [px_con, va_up, va_rf]) (fun j hj => by simp [px_con, va_up, hj])) e2 e3) ?_
  intro x hx
  rcases List.mem_append.mp hx with h | h
  · exact hl x h
  · rw [List.mem_singleton.mp h]
    exact ⟨rfl, hza⟩
theorem pg_newa (X : px_X Γ G cc own) {atype : ArrayType} {ty : FieldType} (hty : newarray.typeOf atype = ty) (hty2 : ty = .int ∨ ty = .boolean) (hw : Cond.arrayClass ty ∈ G.Ts) {n : Int32} {N : Nat} (hd : px_D cc pc (.newarray atype) 2 q) (hn : ¬ n < 0) (hN : n.toNatClampNeg = N) (hb : N ≤ 65536) (hcells : nc + 1 ≤ Γ.R.cells) (hslots : ns + N ≤ Γ.R.slots) (kk : px_G Γ G Q w (nc + 1) (ns + N) q ls (.ref π.1 :: st) (px_nw π (.inl (ty, N, .inl (fun _ => 0))))) : px_G Γ G Q w nc ns pc ls (.int n :: st) π := by
  obtain ⟨hd, rfl⟩ := hd
  subst hty
  intro H lsA locs hL hM hl
  have hdv : defaultValue (newarray.typeOf atype) = .int 0 := by rcases hty2 with h | h <;> rw [h] <;> rfl
  have hcb : N * componentBytes (newarray.typeOf atype) ≤ 536870912 := by
    rcases hty2 with h | h <;> rw [h]
    · show N * 4 ≤ _
      omega
    · show N * 1 ≤ _
      omega
  refine va_newaK X.1 X.2.1 (X.word hw) rfl hd rfl hn hN hcb hcells hslots rfl fun H1 cA e1 z1 o1 hAr hNm => ?_
  have hM' := hM.nw (e' := .inl (newarray.typeOf atype, N, .inl (fun _ => 0))) (H' := H1) ?_ z1 o1
  · have hp := kk H1 lsA locs hL hM' hl
    rw [hM.1] at hp
    exact hp
  · refine ⟨_, e1, State.isArrayOf_alike X.al.symm (hAr N _), ?_, (fun h => by cases h), arrV_size _ _ _, fun j hj => ?_⟩
    · have h9 : va_RA Γ.s cA (newarray.typeOf atype) := by
        rcases hty2 with h | h <;> rw [h] at hNm ⊢ <;> exact hNm
      exact h9.moved X.al.symm
    · rw [arrV_read _ _ hj, hdv]
      rfl
theorem pg_lald (X : px_X Γ G cc own) {a n : Nat} {f : Nat → Int64} {i : Int32} (hd : px_D cc pc .laload 1 q) (hr : px_rd G.ρ π a (.inl (.long, n, .inr (.inr f)))) (hin : vp_in i n) (kk : px_G Γ G Q w nc ns q ls (.long (f i.toNatClampNeg) :: st) π) : px_G Γ G Q w nc ns pc ls (.int i :: .ref a :: st) π := by
  obtain ⟨hd, rfl⟩ := hd
  intro H lsA locs hL hM hl
  obtain ⟨cell, h1, h2, h3, h4, h5, h6⟩ := X.rd hM hr
  exact W.lald X.1 X.2.1 h1 h2 h4 (px_inw h5.1 hin) (h6 _ (px_lt_in hin)) rfl rfl hd (kk H lsA locs hL hM hl)
theorem pg_last (X : px_X Γ G cc own) {a n : Nat} {f : Nat → Int64} {i : Int32} {x : Int64} (hd : px_D cc pc .lastore 1 q) (hr : π.2 a = some (.inl (.long, n, .inr (.inr f)))) (hin : vp_in i n) (kk : px_G Γ G Q true nc ns q ls st (px_wr π a (.inl (.long, n, .inr (.inr (vp_updL f i.toNatClampNeg x)))))) : px_G Γ G Q true nc ns pc ls (.long x :: .int i :: .ref a :: st) π := by
  obtain ⟨hd, rfl⟩ := hd
  intro H lsA locs hL hM hl
  obtain ⟨hza, cell, h1, h2, h3, h4, h5, h6⟩ := hM.2.2.2 a _ hr
  refine W.last X.1 X.2.1 h1 (State.isArrayOf_alike X.al h2) h4 (by rw [h5]; exact hin) rfl rfl hd fun H' e1 e2 e3 => ?_
  refine kk H' lsA _ hL (hM.wr hr (px_at_ast h2 h3 h4 h5 h6 e1 (px_lt_in hin) (by simp [px_con, vp_updL]) (fun j hj => by simp [px_con, vp_updL, hj])) e2 e3) ?_
  intro x hx
  rcases List.mem_append.mp hx with h | h
  · exact hl x h
  · rw [List.mem_singleton.mp h]
    exact ⟨rfl, hza⟩
theorem pg_newl (X : px_X Γ G cc own) (hw : Cond.arrayClass .long ∈ G.Ts) {n : Int32} {N : Nat} (hd : px_D cc pc (.newarray .long) 2 q) (hn : ¬ n < 0) (hN : n.toNatClampNeg = N) (hb : N ≤ 65536) (hcells : nc + 1 ≤ Γ.R.cells) (hslots : ns + N ≤ Γ.R.slots) (kk : px_G Γ G Q w (nc + 1) (ns + N) q ls (.ref π.1 :: st) (px_nw π (.inl (.long, N, .inr (.inr (fun _ => 0)))))) : px_G Γ G Q w nc ns pc ls (.int n :: st) π := by
  obtain ⟨hd, rfl⟩ := hd
  intro H lsA locs hL hM hl
  refine va_newaK (atype := .long) X.1 X.2.1 (X.word hw) rfl hd rfl hn hN (by show N * 8 ≤ _; omega) hcells hslots rfl fun H1 cA e1 z1 o1 hAr hNm => ?_
  have hM' := hM.nw (e' := .inl (.long, N, .inr (.inr (fun _ => 0)))) (H' := H1) ?_ z1 o1
  · have hp := kk H1 lsA locs hL hM' hl
    rw [hM.1] at hp
    exact hp
  · refine ⟨_, e1, State.isArrayOf_alike X.al.symm (hAr N _), ?_, (fun h => by cases h), arrV_size _ _ _, fun j hj => ?_⟩
    · have h9 : va_RA Γ.s cA .long := hNm
      exact h9.moved X.al.symm
    · rw [arrV_read _ _ hj]
      rfl
theorem pg_anew (X : px_X Γ G cc own) {index : Nat} {C : String} (hw : Cond.classLink own index C ∈ G.Ts) (hw2 : (Cond.arrayOver (.object C)).before Γ.args Γ.s = true) {n : Int32} {N : Nat} (hd : px_D cc pc (.anewarray index) 3 q) (hn : ¬ n < 0) (hN : n.toNatClampNeg = N) (hb : N ≤ 65536) (hcells : nc + 1 ≤ Γ.R.cells) (hslots : ns + N ≤ Γ.R.slots) (kk : px_G Γ G Q w (nc + 1) (ns + N) q ls (.ref π.1 :: st) (px_nw π (.inl (.object C, N, .inr (.inl (fun _ => none)))))) : px_G Γ G Q w nc ns pc ls (.int n :: st) π := by
  obtain ⟨hd, rfl⟩ := hd
  subst hN
  intro H lsA locs hL hM hl
  refine W.anew X.1 X.2.1 X.2.2.1 (X.word hw) hw2 rfl hd rfl hn (by omega) hcells hslots fun cA kA comp c1 c2 c3 c4 => ?_
  have hM' := hM.nw (e' := .inl (.object C, n.toNatClampNeg, .inr (.inl (fun _ => none)))) (H' := H.push { cls := cA, slots := Array.replicate n.toNatClampNeg .null, vm := .none }) ?_ (by simp) (fun q hq => by rw [Array.getElem?_push, if_neg (Nat.ne_of_lt hq)])
  · have hp := kk _ lsA locs hL hM' hl
    rw [hM.1] at hp
    exact hp
  · refine ⟨{ cls := cA, slots := Array.replicate n.toNatClampNeg .null, vm := .none }, by simp, State.isArrayOf_alike X.al.symm ⟨(fun k h => by cases h), kA, c2, comp, c3⟩, (va_RA.moved (u := Γ.s) X.al.symm ⟨kA, comp, c2, c3, c4, c1⟩), (fun h => by cases h), by simp, fun j hj => ?_⟩
    show (Array.replicate n.toNatClampNeg Value.null)[j]? = _
    rw [Array.getElem?_replicate, if_pos hj]
    rfl
theorem pg_new (X : px_X Γ G cc own) {index ci : Nat} {C : String} {T : u_T} {N : Nat} {ty0 : Nat → FieldType} {fs : List Value} (hc : G.cl[ci]? = some (C, T, N)) (hin : ∀ w ∈ u_ws C T N, w ∈ G.Ts) (hty : ∀ k, k < N → parseFieldDescriptor (T k).2.2.1 = some (ty0 k)) (hw : Cond.classLink own index C ∈ G.Ts) (hw2 : Cond.instantiable C N ∈ G.Ts) (hw3 : Cond.initialized C ∈ G.Ts) (hd : px_D cc pc (.new index) 3 q) (hlen : fs.length = N) (hfs : ∀ j, j < N → defaultValue (ty0 j) = vp_V fs j) (hcells : nc + 1 ≤ Γ.R.cells) (hslots : ns + N ≤ Γ.R.slots) (kk : px_G Γ G Q w (nc + 1) (ns + N) q ls (.ref π.1 :: st) (px_nw π (.inr (ci, fs)))) : px_G Γ G Q w nc ns pc ls st π := by
  obtain ⟨hd, rfl⟩ := hd
  intro H lsA locs hL hM hl
  have hKn := X.K.1 ci _ hc
  have hts : ∀ w ∈ u_ws C T N, w.before Γ.args Γ.s = true := fun w hw => X.word (hin w hw)
  refine W.newcK X.1 X.2.1 X.2.2.1 (X.word hw) (X.word hw2) (X.word hw3) rfl hd hcells hslots hKn.2.1 rfl fun H1 kC hkC e1 z1 o1 => ?_
  have hM' := hM.nw (e' := .inr (ci, fs)) (H' := H1) ⟨_, hc, hlen, (u_born ty0 hts (fun w h => h) hKn hkC e1 hty).to hfs⟩ z1 o1
  have hp := kk H1 lsA locs hL hM' hl
  rw [hM.1] at hp
  exact hp
end PGH
