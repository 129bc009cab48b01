/-! System.arraycopy from the start of an array to the start of another -/
theorem px_pairs (p0 : Nat) : ∀ (xs : List Value) (i : Nat) (cx : Cell), (cx.storePairs p0 (xs.zipIdx i)).cls = cx.cls ∧ (cx.storePairs p0 (xs.zipIdx i)).vm = cx.vm ∧ (cx.storePairs p0 (xs.zipIdx i)).slots.size = cx.slots.size ∧ ∀ k, k < cx.slots.size → (cx.storePairs p0 (xs.zipIdx i)).slots[k]? = if p0 + i ≤ k ∧ k < p0 + i + xs.length then some (xs.getD (k - (p0 + i)) .null) else cx.slots[k]?
  | [], i, cx => ⟨rfl, rfl, rfl, fun k hk => by rw [if_neg (by simp only [List.length_nil]; omega)]; rfl⟩
  | x :: xs, i, cx => by
    rw [List.zipIdx_cons]
    obtain ⟨h1, h2, h3, h4⟩ := px_pairs p0 xs (i + 1) (cx.setSlot (p0 + i) x)
    refine ⟨h1, h2, h3.trans (k2_slotsz _ _ _), fun k hk => ?_⟩
    have h5 := h4 k (by rw [k2_slotsz]; exact hk)
    refine h5.trans ?_
    by_cases hki : k = p0 + i
    · subst hki
      rw [if_neg (by omega), if_pos (by simp only [List.length_cons]; omega)]
      show (cx.slots.setIfInBounds (p0 + i) x)[p0 + i]? = _
      rw [Array.getElem?_setIfInBounds_self_of_lt hk]
      simp
    · by_cases h : p0 + (i + 1) ≤ k ∧ k < p0 + (i + 1) + xs.length
      · rw [if_pos h, if_pos (by simp only [List.length_cons]; omega)]
        have e : k - (p0 + i) = (k - (p0 + (i + 1))) + 1 := by omega
        rw [e, List.getD_cons_succ]
      · rw [if_neg h, if_neg (by simp only [List.length_cons]; omega)]
        show (cx.slots.setIfInBounds (p0 + i) x)[k]? = _
        rw [Array.getElem?_setIfInBounds_ne (fun q => hki q.symm)]
section PGY
variable {Γ : px_Cm} {G : px_Cg} {Q : State → Prop} {cc : ByteArray} {own : String} {nc ns pc q : Nat} {ls : List (Option Value)} {st : List Value} {π : px_H}
theorem pg_copy (X : px_X Γ G cc own) {index : Nat} (hw : Cond.methodLink own index arraycopyName ∈ G.Ts) (hw2 : Cond.native arraycopyName ∈ G.Ts) (hw3 : Cond.static arraycopyName ∈ G.Ts) (hw4 : Cond.initialized "java/lang/System" ∈ G.Ts) (hd : px_D cc pc (.invokestatic index) 3 q) {a0 a n0 n1 N : Nat} {f g : Nat → Int32}
    (hfr : 1 ≤ Γ.R.frames) (hlo : (st.map fun v => v.category).sum + (nativeFrameWords "java/lang/System" "arraycopy" 5 + 11) ≤ Γ.R.locals)
    (h0 : px_rd G.ρ π a0 (.inl (.int, n0, .inl f))) (h1 : π.2 a = some (.inl (.int, n1, .inl g))) (hN0 : N ≤ n0) (hN1 : N ≤ n1) (hN : N < 2 ^ 31) 
    (kk : px_G Γ G Q true nc ns q ls st (px_wr π a (.inl (.int, n1, .inl (fun j => if j < N then f j else g j))))) : px_G Γ G Q true nc ns pc ls (.int (nI N) :: .int 0 :: .ref a :: .int 0 :: .ref a0 :: st) π := by
  obtain ⟨hd, rfl⟩ := hd
  intro H lsA locs hL hM hl T hT S
  obtain ⟨cs, s1, s2, s3, s4, s5, s6⟩ := X.rd hM h0
  obtain ⟨hza, cd, d1, d2, d3, d4, d5, d6⟩ := hM.2.2.2 a _ h1
  have d2' := State.isArrayOf_alike X.al d2
  obtain ⟨s21, k0, hk0, cm0, hkk0⟩ := id s2
  obtain ⟨d21, k1, hk1, cm1, hkk1⟩ := id d2'
  have eN : (nI N).toNatClampNeg = N := nI_clamp hN
  have iN : (nI N).toInt = (N : Int) := nI_toInt hN
  have e0 : (0 : Int32).toNatClampNeg = 0 := rfl
  have i0 : (0 : Int32).toInt = 0 := rfl
  obtain ⟨vm', S', step⟩ := S.arraycopy X.1 X.2.2.1 (X.word hw) (X.word hw2) (X.word hw3) (X.word hw4) (src := a0) (dst := a) (cs := cs) (cd := cd) (srcPos := 0) (destPos := 0) (n := nI N) (by rw [hT]; exact s1) (by rw [hT]; exact d1)
    s21 d21 s4 d4 hk0 hk1 hkk0 hkk1 (by simp [refKind]) (by decide) (by decide) (nI_pos hN)
    (by rw [i0, iN]; simp; exact Nat.le_trans hN0 s5.1) (by rw [i0, iN, d5]; simp; exact hN1)
    (fun vm₁ _ i hi => by
      rw [eN] at hi
      have e : cs.slots.getD ((0 : Int32).toNatClampNeg + i) .null = .int (f i) := by
        rw [Array.getD_eq_getD_getElem?, e0, Nat.zero_add, s6 i (by show i < n0; omega)]
        rfl
      refine ⟨?_, ?_⟩
      · rw [e]; rfl
      · rw [e]; exact trivial)
    (g := F0 Γ.m pc lsA (.int (nI N) :: .int 0 :: .ref a :: .int 0 :: .ref a0 :: st)) rfl hL.1 (rest := st) rfl (by rw [X.2.1]; exact hd) hfr (by show 2 * 0 + _ + _ ≤ _; omega)
  have hst : cs.stretch (0 : Int32).toNatClampNeg (nI N).toNatClampNeg = (List.range N).map (fun i => Value.int (f i)) := by
    unfold Cell.stretch
    rw [eN, e0]
    apply List.map_congr_left
    intro i hi
    have hi' := List.mem_range.mp hi
    rw [Array.getD_eq_getD_getElem?, Nat.zero_add, s6 i (by show i < n0; omega)]
    rfl
  obtain ⟨p1, p2, p3, p4⟩ := px_pairs 0 ((List.range N).map (fun i => Value.int (f i))) 0 cd
  have hcop : copied cs cd 0 0 (nI N) = cd.storePairs 0 (((List.range N).map (fun i => Value.int (f i))).zipIdx 0) := by
    show cd.storeRun (0 : Int32).toNatClampNeg (cs.stretch (0 : Int32).toNatClampNeg (nI N).toNatClampNeg) = _
    rw [hst]
    rfl
  rw [hcop] at S' step
  generalize hnew : cd.storePairs 0 (((List.range N).map (fun i => Value.int (f i))).zipIdx 0) = nw at S' step p1 p2 p3 p4
  have hlt : a < H.size := (Array.getElem?_eq_some_iff.mp d1).1
  have hheap : ((T.setVm vm').setCell a nw).heap = H.setIfInBounds a nw := by rw [← hT]; rfl
  have oq : ∀ q : Nat, q ≠ a → (H.setIfInBounds a nw)[q]? = H[q]? := fun q hq => by simp [Array.getElem?_setIfInBounds, Ne.symm hq]
  have hat : px_at G.D G.cl G.S0 a (.inl (.int, n1, .inl (fun j => if j < N then f j else g j))) (H.setIfInBounds a nw) := by
    refine ⟨nw, by simp [Array.getElem?_setIfInBounds, hlt], ⟨by rw [p2]; exact d2.1, by rw [p1]; exact d2.2⟩, by rw [p1]; exact d3, by rw [p2]; exact d4, by rw [p3]; exact d5, fun j hj => ?_⟩
    have hj2 : j < n1 := hj
    rw [p4 j (by rw [d5]; exact hj)]
    simp only [Nat.zero_add, List.length_map, List.length_range, Nat.zero_le, true_and, Nat.sub_zero]
    by_cases hjN : j < N
    · rw [if_pos hjN, List.getD_eq_getElem?_getD, List.getElem?_map, List.getElem?_range hjN]
      simp [px_con, hjN]
    · rw [if_neg hjN, d6 j hj]
      simp [px_con, hjN]
  obtain ⟨t, a1, b1⟩ := kk _ lsA _ hL (hM.wr h1 hat (by simp) oq) (fun q hq => by
    rcases List.mem_append.mp hq with h | h
    · exact hl q h
    · obtain ⟨z, -, hz⟩ := List.mem_map.mp h
      rw [← hz]
      exact ⟨rfl, hza⟩) _ hheap S'
  exact ⟨t, step t a1, b1⟩
end PGY
