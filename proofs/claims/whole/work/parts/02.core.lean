/-! CORE: a pure heap over the machine's heap, and a walk over it. S0: the law's own start; z0: its heap's size; cells below z0 never change. -/
abbrev px_V : Type := (Nat → Int32) ⊕ (Nat → Option Nat) ⊕ (Nat → Int64)
abbrev px_A : Type := FieldType × Nat × px_V
abbrev px_E : Type := px_A ⊕ (Nat × List Value)
abbrev px_H : Type := Nat × (Nat → Option px_E)
def px_con (q : px_V) (j : Nat) : Value := match q with
  | .inl f => .int (f j)
  | .inr (.inl f) => va_rf (f j)
  | .inr (.inr f) => .long (f j)
def px_at (D : va_G) (cl : List vw_C) (s : State) (a : Nat) (e : px_E) (H : Heap) : Prop := match e with
  | .inl q => ∃ cell : Cell, H[a]? = some cell ∧ s.isArrayOf cell q.1 ∧ va_RA s cell.cls q.1 ∧ cell.vm ≠ .unknown ∧ cell.slots.size = q.2.1 ∧ ∀ j : Nat, j < q.2.1 → cell.slots[j]? = some (px_con q.2.2 j)
  | .inr o => ∃ r : vw_C, cl[o.1]? = some r ∧ o.2.length = r.2.2 ∧ t_OB a (D.1 o.1) r.2.2 (D.2 o.1) H (vp_V o.2)
theorem px_at.kept {D : va_G} {cl : List vw_C} {s : State} {a : Nat} {e : px_E} {H H1 : Heap} (h : px_at D cl s a e H) (hq : H1[a]? = H[a]?) : px_at D cl s a e H1 := by
  cases e with
  | inl q =>
    obtain ⟨cell, h1, h2⟩ := h
    exact ⟨cell, hq.trans h1, h2⟩
  | inr o =>
    obtain ⟨r, h1, h2, h3⟩ := h
    exact ⟨r, h1, h2, h3.kept hq⟩
theorem px_at.lt {D : va_G} {cl : List vw_C} {s : State} {a : Nat} {e : px_E} {H : Heap} (h : px_at D cl s a e H) : a < H.size := by
  cases e with
  | inl q =>
    obtain ⟨cell, h1, -⟩ := h
    exact (Array.getElem?_eq_some_iff.mp h1).1
  | inr o =>
    obtain ⟨r, -, -, cell, h1, -⟩ := h
    exact (Array.getElem?_eq_some_iff.mp h1).1
theorem px_at.moved {D : va_G} {cl : List vw_C} {s U : State} {a : Nat} {e : px_E} {H : Heap} (hvm : s.vm.Alike U.vm) (h : px_at D cl s a e H) : px_at D cl U a e H := by
  cases e with
  | inl q =>
    obtain ⟨cell, h1, h2, h3, h4⟩ := h
    exact ⟨cell, h1, State.isArrayOf_alike hvm h2, h3.moved hvm, h4⟩
  | inr o => exact h
/-- what a read asks of a cell: of an array its length as an int, and that its places are there -/
def px_aw (D : va_G) (cl : List vw_C) (s : State) (a : Nat) (e : px_E) (H : Heap) : Prop := match e with
  | .inl q => ∃ cell : Cell, H[a]? = some cell ∧ s.isArrayOf cell q.1 ∧ True ∧ cell.vm ≠ .unknown ∧ (q.2.1 ≤ cell.slots.size ∧ cell.slots.size.toInt32 = Int32.ofNat q.2.1) ∧ ∀ j : Nat, j < q.2.1 → cell.slots[j]? = some (px_con q.2.2 j)
  | .inr o => ∃ r : vw_C, cl[o.1]? = some r ∧ o.2.length = r.2.2 ∧ t_OB a (D.1 o.1) r.2.2 (D.2 o.1) H (vp_V o.2)
theorem px_at.w {D : va_G} {cl : List vw_C} {s : State} {a : Nat} {e : px_E} {H : Heap} (h : px_at D cl s a e H) : px_aw D cl s a e H := by
  cases e with
  | inl q =>
    obtain ⟨cell, h1, h2, h3, h4, h5, h6⟩ := h
    exact ⟨cell, h1, h2, trivial, h4, ⟨Nat.le_of_eq h5.symm, by rw [h5]⟩, h6⟩
  | inr o => exact h
theorem px_aw.kept {D : va_G} {cl : List vw_C} {s : State} {a : Nat} {e : px_E} {H H1 : Heap} (h : px_aw D cl s a e H) (hq : H1[a]? = H[a]?) : px_aw D cl s a e H1 := by
  cases e with
  | inl q =>
    obtain ⟨cell, h1, h2⟩ := h
    exact ⟨cell, hq.trans h1, h2⟩
  | inr o =>
    obtain ⟨r, h1, h2, h3⟩ := h
    exact ⟨r, h1, h2, h3.kept hq⟩
theorem px_aw.moved {D : va_G} {cl : List vw_C} {s U : State} {a : Nat} {e : px_E} {H : Heap} (hvm : s.vm.Alike U.vm) (h : px_aw D cl s a e H) : px_aw D cl U a e H := by
  cases e with
  | inl q =>
    obtain ⟨cell, h1, h2, h3⟩ := h
    exact ⟨cell, h1, State.isArrayOf_alike hvm h2, h3⟩
  | inr o => exact h
def px_wr (π : px_H) (a : Nat) (e : px_E) : px_H := (π.1, fun q => if q = a then some e else π.2 q)
def px_nw (π : px_H) (e : px_E) : px_H := (π.1 + 1, fun q => if q = π.1 then some e else π.2 q)
def px_rd (ρ : Nat → Option px_E) (π : px_H) (a : Nat) (e : px_E) : Prop := π.2 a = some e ∨ ρ a = some e
theorem px_rd_of {ρ : Nat → Option px_E} {π : px_H} {a : Nat} {e : px_E} (h : π.2 a = some e) : px_rd ρ π a e := Or.inl h
theorem px_rd_r {ρ : Nat → Option px_E} {π : px_H} {a : Nat} {e : px_E} (h : ρ a = some e) : px_rd ρ π a e := Or.inr h
theorem px_wr_self {π : px_H} {a : Nat} {e : px_E} : (px_wr π a e).2 a = some e := by simp [px_wr]
theorem px_wr_ne {π : px_H} {a b : Nat} {e : px_E} (h : b ≠ a) : (px_wr π a e).2 b = π.2 b := by simp [px_wr, h]
theorem px_wr_size {π : px_H} {a : Nat} {e : px_E} : (px_wr π a e).1 = π.1 := rfl
theorem px_nw_self {π : px_H} {e : px_E} : (px_nw π e).2 π.1 = some e := by simp [px_nw]
theorem px_nw_ne {π : px_H} {b : Nat} {e : px_E} (h : b ≠ π.1) : (px_nw π e).2 b = π.2 b := by simp [px_nw, h]
/-- the machine's heap holds the pure one -/
def px_M (S0 : State) (D : va_G) (cl : List vw_C) (z0 : Nat) (π : px_H) (H : Heap) : Prop :=
  π.1 = H.size ∧ z0 ≤ H.size ∧ (∀ q : Nat, q < z0 → H[q]? = S0.heap[q]?) ∧ ∀ (a : Nat) (e : px_E), π.2 a = some e → z0 ≤ a ∧ px_at D cl S0 a e H
theorem px_M.wr {S0 : State} {D : va_G} {cl : List vw_C} {z0 : Nat} {π : px_H} {H H' : Heap} (h : px_M S0 D cl z0 π H) {a : Nat} {e e' : px_E} (ha : π.2 a = some e) (h1 : px_at D cl S0 a e' H') (hz : H'.size = H.size) (ho : ∀ q, q ≠ a → H'[q]? = H[q]?) : px_M S0 D cl z0 (px_wr π a e') H' := by
  obtain ⟨m1, m2, m3, m4⟩ := h
  have hza := (m4 _ _ ha).1
  refine ⟨by rw [hz]; exact m1, by omega, fun q hq => (ho q (by omega)).trans (m3 q hq), fun b f hb => ?_⟩
  by_cases hba : b = a
  · subst hba
    rw [px_wr_self] at hb
    cases hb
    exact ⟨hza, h1⟩
  · rw [px_wr_ne hba] at hb
    exact ⟨(m4 _ _ hb).1, (m4 _ _ hb).2.kept (ho b hba)⟩
theorem px_M.nw {S0 : State} {D : va_G} {cl : List vw_C} {z0 : Nat} {π : px_H} {H H' : Heap} (h : px_M S0 D cl z0 π H) {e' : px_E} (h1 : px_at D cl S0 H.size e' H') (hz : H'.size = H.size + 1) (ho : ∀ q, q < H.size → H'[q]? = H[q]?) : px_M S0 D cl z0 (px_nw π e') H' := by
  obtain ⟨m1, m2, m3, m4⟩ := h
  refine ⟨by show π.1 + 1 = _; rw [hz, m1], by omega, fun q hq => (ho q (by omega)).trans (m3 q hq), fun b f hb => ?_⟩
  by_cases hba : b = π.1
  · subst hba
    rw [px_nw_self] at hb
    cases hb
    rw [m1]
    exact ⟨m2, h1⟩
  · rw [px_nw_ne hba] at hb
    exact ⟨(m4 _ _ hb).1, (m4 _ _ hb).2.kept (ho b (m4 _ _ hb).2.lt)⟩
/-- what holds once and for all of the start -/
def px_Z (S0 : State) (D : va_G) (cl : List vw_C) (z0 : Nat) (ρ : Nat → Option px_E) (Ts : List Cond) : Prop :=
  (∀ w ∈ Ts, ∀ (a' : Array Value) (U : State), S0.WarmedH U.vm → w.before a' U = true) ∧ va_K D cl [] S0 ∧ ∀ (a : Nat) (e : px_E), ρ a = some e → a < z0 ∧ px_aw D cl S0 a e S0.heap
def px_W (S0 : State) (D : va_G) (cl : List vw_C) (z0 : Nat) (π : px_H) (U : State) : Prop := S0.WarmedH U.vm ∧ px_M S0 D cl z0 π U.heap
theorem px_word {S0 : State} {D : va_G} {cl : List vw_C} {z0 : Nat} {ρ : Nat → Option px_E} {Ts : List Cond} (hZ : px_Z S0 D cl z0 ρ Ts) {U : State} (hW : S0.WarmedH U.vm) (a' : Array Value) {w : Cond} (hw : w ∈ Ts) : w.before a' U = true := hZ.1 w hw a' U hW
/-- the locals -/
def px_L (nL : Nat) (ls : List (Option Value)) (lsA : Array Slot) : Prop := lsA.size = nL ∧ lv_wf lsA ∧ ls.length = nL ∧ ∀ (i : Nat) (v : Value), ls[i]? = some (some v) → v.category = 1 ∧ lsA[i]? = some (.val v)
def px_lv (ls : List (Option Value)) : List (Nat × Value) := (List.range ls.length).filterMap (fun i => (ls[i]?.join).map (fun v => (i, v)))
theorem px_lv_mem {ls : List (Option Value)} {q : Nat × Value} : q ∈ px_lv ls ↔ ls[q.1]? = some (some q.2) := by
  unfold px_lv
  rw [List.mem_filterMap]
  constructor
  · rintro ⟨i, -, h⟩
    cases hi : ls[i]? with
    | none => rw [hi] at h; simp at h
    | some x =>
      cases x with
      | none => rw [hi] at h; simp at h
      | some v =>
        rw [hi] at h
        simp at h
        subst h
        exact hi
  · intro h
    refine ⟨q.1, List.mem_range.mpr (List.getElem?_eq_some_iff.mp h).1, ?_⟩
    rw [h]
    rfl
theorem px_L.has {nL : Nat} {ls : List (Option Value)} {lsA : Array Slot} (h : px_L nL ls lsA) : lv_has lsA nL (px_lv ls) := ⟨h.1, h.2.1, fun q hq => (h.2.2.2 q.1 q.2 (px_lv_mem.mp hq)).2⟩
theorem px_L.store {nL : Nat} {ls : List (Option Value)} {lsA lsA' : Array Slot} (h : px_L nL ls lsA) {i : Nat} {v : Value} (hi : i < ls.length) (hc : v.category = 1) (h' : lv_has lsA' nL ((i, v) :: (px_lv ls).filter (fun q => !(q.1 == i) && !(q.1 + 1 == i && q.2.category == 2)))) : px_L nL (ls.set i (some v)) lsA' := by
  refine ⟨h'.1, h'.2.1, by rw [List.length_set]; exact h.2.2.1, fun j w hj => ?_⟩
  by_cases hji : j = i
  · subst hji
    rw [List.getElem?_set_self hi] at hj
    cases hj
    exact ⟨hc, h'.2.2 (j, v) List.mem_cons_self⟩
  · rw [List.getElem?_set_ne (fun q => hji q.symm)] at hj
    have hw := (h.2.2.2 j w hj).1
    refine ⟨hw, h'.2.2 (j, w) (List.mem_cons_of_mem _ (List.mem_filter.mpr ⟨px_lv_mem.mpr hj, ?_⟩))⟩
    simp [hji, hw]
theorem px_L.rd {nL : Nat} {ls : List (Option Value)} {lsA : Array Slot} (h : px_L nL ls lsA) {i : Nat} {v : Value} (hi : ls[i]? = some (some v)) : lsA[i]? = some (.val v) := (h.2.2.2 i v hi).2
