/-! PURE: distances outwards from a goal (BFS) -/
theorem php : ∀ (n f : Nat) (q : Nat → Nat), (∀ j, j < f → q j < n) → (∀ j k, j < f → k < f → q j = q k → j = k) → f ≤ n := by
  intro n
  induction n with
  | zero =>
    intro f q h1 h2
    rcases Nat.eq_zero_or_pos f with h | h
    · omega
    · exact absurd (h1 0 h) (Nat.not_lt_zero _)
  | succ n ih =>
    intro f q h1 h2
    rcases Classical.em (∃ j, j < f ∧ q j = n) with ⟨j0, hj0, e0⟩ | hno
    · have h3 := ih (f - 1) (fun j => if j < j0 then q j else q (j + 1)) (fun j hj => by
        show (if j < j0 then q j else q (j + 1)) < n
        split
        · have a1 := h1 j (by omega)
          have a2 : q j ≠ n := fun e => by have := h2 j j0 (by omega) hj0 (by rw [e, e0]); omega
          omega
        · have a1 := h1 (j + 1) (by omega)
          have a2 : q (j + 1) ≠ n := fun e => by have := h2 (j + 1) j0 (by omega) hj0 (by rw [e, e0]); omega
          omega) (fun j k hj hk e => by
        have e' : (if j < j0 then q j else q (j + 1)) = (if k < j0 then q k else q (k + 1)) := e
        split at e' <;> split at e'
        · exact h2 j k (by omega) (by omega) e'
        · have := h2 j (k + 1) (by omega) (by omega) e'
          omega
        · have := h2 (j + 1) k (by omega) (by omega) e'
          omega
        · have := h2 (j + 1) (k + 1) (by omega) (by omega) e'
          omega)
      omega
    · have h3 := ih f q (fun j hj => by
        have a1 := h1 j hj
        have a2 : q j ≠ n := fun e => hno ⟨j, hj, e⟩
        omega) h2
      omega
/-- D holds the distances to c0 round the walls wl; -1: no way -/
def isD (wd ht : Nat) (wl : Nat → Int32) (c0 : Nat) (D : Nat → Int32) : Prop :=
  D c0 = nI 0 ∧
  (∀ c, c < 12 * ht → D c ≠ -1 → ∃ k, k < 144 ∧ D c = nI k ∧ inC wd ht c ∧ (c ≠ c0 → wl c = 0)) ∧
  (∀ c k, c < 12 * ht → k < 144 → D c = nI (k + 1) → ∃ t o, t < 4 ∧ nbr wd ht c t = some o ∧ D o = nI k) ∧
  (∀ c, c < 12 * ht → D c = nI 0 → c = c0) ∧
  ∀ c k t o, c < 12 * ht → k < 144 → D c = nI k → t < 4 → nbr wd ht c t = some o → wl o = 0 → ∃ j, j ≤ k + 1 ∧ D o = nI j
theorem nbr_sym {wd ht c t o : Nat} (hw : wd ≤ 12) (hc : inC wd ht c) (h : nbr wd ht c t = some o) : ∃ d, d < 4 ∧ nbr wd ht o d = some c := by
  unfold inC at hc
  unfold nbr at h
  split at h
  · split at h
    · cases h
      exact ⟨2, by decide, by unfold nbr; simp only; rw [if_pos (by omega)]; congr 1; omega⟩
    · cases h
  · split at h
    · cases h
      exact ⟨3, by decide, by unfold nbr; simp only; rw [if_pos (by omega)]; congr 1⟩
    · cases h
  · split at h
    · cases h
      exact ⟨0, by decide, by unfold nbr; simp only; rw [if_pos (by omega)]; congr 1⟩
    · cases h
  · split at h
    · cases h
      exact ⟨1, by decide, by unfold nbr; simp only; rw [if_pos (by omega)]; congr 1; omega⟩
    · cases h
/-- where the search stands: f in the queue, i of them done, and s sides of the i-th -/
def BI (wd ht : Nat) (wl : Nat → Int32) (c0 : Nat) (D Q : Nat → Int32) (f i s : Nat) : Prop := ∃ q dn : Nat → Nat,
  (1 ≤ f ∧ i ≤ f) ∧ (q 0 = c0 ∧ dn 0 = 0) ∧ (∀ j, j < f → Q j = nI (q j) ∧ inC wd ht (q j) ∧ (j ≠ 0 → wl (q j) = 0) ∧ D (q j) = nI (dn j) ∧ dn j ≤ j) ∧ (∀ j k, j < f → k < f → q j = q k → j = k) ∧
  (∀ c, (∀ j, j < f → q j ≠ c) → D c = -1) ∧ (∀ j k, j ≤ k → k < f → dn j ≤ dn k) ∧ (∀ j, j < f → i < f → dn j ≤ dn i + 1) ∧ (∀ j, j < f → j ≠ 0 → ∃ p t, p < f ∧ t < 4 ∧ nbr wd ht (q p) t = some (q j) ∧ dn j = dn p + 1) ∧
  (∀ p t o, p < i → t < 4 → nbr wd ht (q p) t = some o → wl o = 0 → ∃ j, j < f ∧ q j = o ∧ dn j ≤ dn p + 1) ∧ ∀ t o, t < s → i < f → nbr wd ht (q i) t = some o → wl o = 0 → ∃ j, j < f ∧ q j = o ∧ dn j ≤ dn i + 1
section BFS
variable {wd ht c0 f i s : Nat} {wl D Q : Nat → Int32}
theorem BI.len (hw : wd ≤ 12) (B : BI wd ht wl c0 D Q f i s) : f ≤ 12 * ht := by
  obtain ⟨q, dn, -, -, h3, h4, -⟩ := B
  exact php (12 * ht) f q (fun j hj => inC_lt (h3 j hj).2.1) h4
theorem BI.start (hc : inC wd ht c0) (h : ∀ c, D c = -1) : BI wd ht wl c0 (upd D c0 0) (upd Q 0 (nI c0)) 1 0 0 := by
  refine ⟨fun _ => c0, fun _ => 0, ⟨by omega, by omega⟩, ⟨rfl, rfl⟩, fun j hj => ?_, fun j k hj hk _ => by omega, fun c hcn => ?_, fun j k _ _ => Nat.le_refl 0, fun j _ _ => Nat.zero_le _, fun j hj h0 => by omega, fun p t o hp => by omega, fun t o ht => by omega⟩
  · have : j = 0 := by omega
    subst this
    exact ⟨by simp [upd], hc, fun q => absurd rfl q, by simp [upd]; rfl, Nat.le_refl 0⟩
  · have : c0 ≠ c := hcn 0 (by omega)
    simp [upd, Ne.symm this, h]
/-- the cell that is being looked at -/
theorem BI.cell (B : BI wd ht wl c0 D Q f i s) (hi : i < f) : ∃ c, Q i = nI c ∧ inC wd ht c := by
  obtain ⟨q, dn, -, -, h3, -⟩ := B
  exact ⟨q i, (h3 i hi).1, (h3 i hi).2.1⟩
theorem BI.skip (B : BI wd ht wl c0 D Q f i s) (hi : i < f) {c : Nat} (hc : Q i = nI c) (hcl : c < 144) (hw : wd ≤ 12) (hh : ht ≤ 12) (h : ∀ o, nbr wd ht c s = some o → wl o = 0 → D o ≠ -1) : BI wd ht wl c0 D Q f i (s + 1) := by
  obtain ⟨q, dn, h1, h2, h3, h4, h5, h6, h7, h8, h9, h10⟩ := B
  refine ⟨q, dn, h1, h2, h3, h4, h5, h6, h7, h8, h9, fun t o ht2 hi2 hn hw0 => ?_⟩
  rcases Nat.lt_succ_iff_lt_or_eq.mp ht2 with q1 | q1
  · exact h10 t o q1 hi2 hn hw0
  · subst q1
    have hq := inC_144 hw hh (h3 i hi).2.1
    have ec : q i = c := (nI_eq (by omega) (by omega)).mp ((h3 i hi).1.symm.trans hc)
    rw [ec] at hn
    have hD := h o hn hw0
    have : ∃ j, j < f ∧ q j = o := Classical.byContradiction fun q2 => hD (h5 o (fun j hj e => q2 ⟨j, hj, e⟩))
    obtain ⟨j, hj, e⟩ := this
    exact ⟨j, hj, e, h7 j hj hi⟩
theorem BI.add (B : BI wd ht wl c0 D Q f i s) (hi : i < f) {c o : Nat} (hc : Q i = nI c) (hcl : c < 144) (hw : wd ≤ 12) (hh : ht ≤ 12) (hs4 : s < 4) (hn : nbr wd ht c s = some o) (hw0 : wl o = 0) (hD : D o = -1) : BI wd ht wl c0 (upd D o (D c + 1)) (upd Q f (nI o)) (f + 1) i (s + 1) := by
  have hlen := B.len hw
  obtain ⟨q, dn, h1, h2, h3, h4, h5, h6, h7, h8, h9, h10⟩ := B
  have hq := inC_144 hw hh (h3 i hi).2.1
  have ec : q i = c := (nI_eq (by omega) (by omega)).mp ((h3 i hi).1.symm.trans hc)
  have hio := nbr_in hw (by rw [← ec]; exact (h3 i hi).2.1) hn
  have hne : ∀ j, j < f → q j ≠ o := fun j hj e => by
    have a := (h3 j hj).2.2.2.1
    have b := (h3 j hj).2.2.2.2
    rw [e, hD] at a
    exact nI_nm1 (a := dn j) (by omega) a.symm
  have hDc : D c + 1 = nI (dn i + 1) := by
    have a := (h3 i hi).2.2.2.1
    rw [ec] at a
    rw [a]
    exact nI_1 _
  refine ⟨fun j => if j = f then o else q j, fun j => if j = f then dn i + 1 else dn j, ⟨by omega, by omega⟩, ⟨?_, ?_⟩, ?_, ?_, ?_, ?_, ?_, ?_, ?_, ?_⟩
  · show (if 0 = f then o else q 0) = c0
    rw [if_neg (by omega)]
    exact h2.1
  · show (if 0 = f then dn i + 1 else dn 0) = 0
    rw [if_neg (by omega)]
    exact h2.2
  · intro j hj
    show upd Q f (nI o) j = nI (if j = f then o else q j) ∧ inC wd ht (if j = f then o else q j) ∧ (j ≠ 0 → wl (if j = f then o else q j) = 0) ∧ upd D o (D c + 1) (if j = f then o else q j) = nI (if j = f then dn i + 1 else dn j) ∧ (if j = f then dn i + 1 else dn j) ≤ j
    by_cases e : j = f
    · subst e
      simp only [if_true]
      refine ⟨by simp [upd], hio, fun _ => hw0, by simp [upd]; exact hDc, ?_⟩
      have := (h3 i hi).2.2.2.2
      omega
    · rw [if_neg e, if_neg e]
      have hj2 : j < f := by omega
      obtain ⟨a1, a2, a3, a4, a5⟩ := h3 j hj2
      exact ⟨by simp [upd, e]; exact a1, a2, a3, by simp [upd, hne j hj2]; exact a4, a5⟩
  · intro j k hj hk e
    have e' : (if j = f then o else q j) = (if k = f then o else q k) := e
    by_cases ej : j = f <;> by_cases ek : k = f
    · omega
    · rw [if_pos ej, if_neg ek] at e'
      exact absurd e'.symm (hne k (by omega))
    · rw [if_neg ej, if_pos ek] at e'
      exact absurd e' (hne j (by omega))
    · rw [if_neg ej, if_neg ek] at e'
      exact h4 j k (by omega) (by omega) e'
  · intro x hx
    have a1 : o ≠ x := by
      have := hx f (by omega)
      simpa using this
    have a2 : ∀ j, j < f → q j ≠ x := fun j hj => by
      have := hx j (by omega)
      simpa [show ¬ j = f by omega] using this
    simp [upd, Ne.symm a1, h5 x a2]
  · intro j k hjk hk
    show (if j = f then dn i + 1 else dn j) ≤ (if k = f then dn i + 1 else dn k)
    by_cases ej : j = f <;> by_cases ek : k = f
    · rw [if_pos ej, if_pos ek]; exact Nat.le_refl _
    · omega
    · rw [if_neg ej, if_pos ek]
      exact h7 j (by omega) hi
    · rw [if_neg ej, if_neg ek]
      exact h6 j k hjk (by omega)
  · intro j hj _
    show (if j = f then dn i + 1 else dn j) ≤ (if i = f then dn i + 1 else dn i) + 1
    rw [if_neg (show ¬ i = f by omega)]
    by_cases ej : j = f
    · rw [if_pos ej]; exact Nat.le_refl _
    · rw [if_neg ej]
      exact h7 j (by omega) hi
  · intro j hj h0
    show ∃ p t, p < f + 1 ∧ t < 4 ∧ nbr wd ht (if p = f then o else q p) t = some (if j = f then o else q j) ∧ (if j = f then dn i + 1 else dn j) = (if p = f then dn i + 1 else dn p) + 1
    by_cases ej : j = f
    · refine ⟨i, s, by omega, ?_, ?_, ?_⟩
      · exact hs4
      · rw [if_neg (show ¬ i = f by omega), if_pos ej, ec]
        exact hn
      · rw [if_neg (show ¬ i = f by omega), if_pos ej]
    · obtain ⟨p, t, b1, b2, b3, b4⟩ := h8 j (by omega) h0
      exact ⟨p, t, by omega, b2, by rw [if_neg (show ¬ p = f by omega), if_neg ej]; exact b3, by rw [if_neg (show ¬ p = f by omega), if_neg ej]; exact b4⟩
  · intro p t x hp ht2 hnb hwx
    have hnb' : nbr wd ht (if p = f then o else q p) t = some x := hnb
    rw [if_neg (show ¬ p = f by omega)] at hnb'
    obtain ⟨j, b1, b2, b3⟩ := h9 p t x hp ht2 hnb' hwx
    refine ⟨j, by omega, ?_, ?_⟩
    · show (if j = f then o else q j) = x
      rw [if_neg (show ¬ j = f by omega)]; exact b2
    · show (if j = f then dn i + 1 else dn j) ≤ (if p = f then dn i + 1 else dn p) + 1
      rw [if_neg (show ¬ j = f by omega), if_neg (show ¬ p = f by omega)]; exact b3
  · intro t x ht2 _ hnb hwx
    have hnb' : nbr wd ht (if i = f then o else q i) t = some x := hnb
    rw [if_neg (show ¬ i = f by omega)] at hnb'
    show ∃ j, j < f + 1 ∧ (if j = f then o else q j) = x ∧ (if j = f then dn i + 1 else dn j) ≤ (if i = f then dn i + 1 else dn i) + 1
    rw [if_neg (show ¬ i = f by omega)]
    rcases Nat.lt_succ_iff_lt_or_eq.mp ht2 with q1 | q1
    · obtain ⟨j, b1, b2, b3⟩ := h10 t x q1 hi hnb' hwx
      exact ⟨j, by omega, by rw [if_neg (show ¬ j = f by omega)]; exact b2, by rw [if_neg (show ¬ j = f by omega)]; exact b3⟩
    · subst q1
      rw [ec, hn] at hnb'
      cases hnb'
      exact ⟨f, by omega, by rw [if_pos rfl], by rw [if_pos rfl]; exact Nat.le_refl _⟩
theorem BI.next (B : BI wd ht wl c0 D Q f i 4) (hi : i < f) : BI wd ht wl c0 D Q f (i + 1) 0 := by
  obtain ⟨q, dn, h1, h2, h3, h4, h5, h6, h7, h8, h9, h10⟩ := B
  refine ⟨q, dn, ⟨h1.1, by omega⟩, h2, h3, h4, h5, h6, fun j hj hi2 => ?_, h8, fun p t o hp ht2 hn hw0 => ?_, fun t o ht2 => by omega⟩
  · have a1 := h7 j hj hi
    have a2 := h6 i (i + 1) (by omega) hi2
    omega
  · rcases Nat.lt_succ_iff_lt_or_eq.mp hp with q1 | q1
    · exact h9 p t o q1 ht2 hn hw0
    · subst q1
      exact h10 t o ht2 hi hn hw0
/-- a full queue holds every cell: the other sides give nothing -/
theorem BI.fill (B : BI wd ht wl c0 D Q f i s) (hw : wd ≤ 12) (hf : 12 * ht ≤ f) (hi : i < f) : BI wd ht wl c0 D Q f i 4 := by
  obtain ⟨q, dn, h1, h2, h3, h4, h5, h6, h7, h8, h9, h10⟩ := B
  refine ⟨q, dn, h1, h2, h3, h4, h5, h6, h7, h8, h9, fun t o _ _ hn _ => ?_⟩
  have hio := inC_lt (nbr_in hw (h3 i hi).2.1 hn)
  have hex : ∃ j, j < f ∧ q j = o := Classical.byContradiction fun q2 => by
    have hp := php (12 * ht) (f + 1) (fun j => if j = f then o else q j) (fun j hj => by
      show (if j = f then o else q j) < 12 * ht
      by_cases e : j = f
      · rw [if_pos e]; exact hio
      · rw [if_neg e]; exact inC_lt (h3 j (by omega)).2.1) (fun j k hj hk e => by
      have e' : (if j = f then o else q j) = (if k = f then o else q k) := e
      by_cases ej : j = f <;> by_cases ek : k = f
      · omega
      · rw [if_pos ej, if_neg ek] at e'
        exact absurd ⟨k, by omega, e'.symm⟩ q2
      · rw [if_neg ej, if_pos ek] at e'
        exact absurd ⟨j, by omega, e'⟩ q2
      · rw [if_neg ej, if_neg ek] at e'
        exact h4 j k (by omega) (by omega) e')
    omega
  obtain ⟨j, hj, e⟩ := hex
  exact ⟨j, hj, e, h7 j hj hi⟩
theorem BI.fin (B : BI wd ht wl c0 D Q f f 0) (hw : wd ≤ 12) (hh : ht ≤ 12) : isD wd ht wl c0 D := by
  have hlen := B.len hw
  obtain ⟨q, dn, h1, h2, h3, h4, h5, h6, h7, h8, h9, h10⟩ := B
  have hfind : ∀ c, D c ≠ -1 → ∃ j, j < f ∧ q j = c := fun c hc => Classical.byContradiction fun q2 => hc (h5 c (fun j hj e => q2 ⟨j, hj, e⟩))
  have hk : ∀ c k, k < 2 ^ 31 → D c = nI k → ∃ j, j < f ∧ q j = c ∧ dn j = k := fun c k hk e => by
    obtain ⟨j, hj, ej⟩ := hfind c (by rw [e]; exact nI_nm1 hk)
    have a := (h3 j hj).2.2.2.1
    have b := (h3 j hj).2.2.2.2
    rw [ej, e] at a
    exact ⟨j, hj, ej, ((nI_eq hk (by omega)).mp a).symm⟩
  refine ⟨?_, fun c _ hc => ?_, fun c k _ hk2 e => ?_, fun c _ e => ?_, fun c k t o _ hk2 e ht2 hn hw0 => ?_⟩
  · have a := (h3 0 (by omega)).2.2.2.1
    rw [h2.1, h2.2] at a
    exact a
  · obtain ⟨j, hj, ej⟩ := hfind c hc
    obtain ⟨a1, a2, a3, a4, a5⟩ := h3 j hj
    rw [ej] at a2 a3 a4
    refine ⟨dn j, by omega, a4, a2, fun hne => a3 (fun q0 => hne ?_)⟩
    rw [← ej, q0]
    exact h2.1
  · obtain ⟨j, hj, ej, ek⟩ := hk c (k + 1) (by omega) e
    obtain ⟨p, t, b1, b2, b3, b4⟩ := h8 j hj (fun q0 => by rw [q0, h2.2] at ek; omega)
    rw [ej] at b3
    obtain ⟨d, hd, hs⟩ := nbr_sym hw (h3 p b1).2.1 b3
    refine ⟨d, q p, hd, hs, ?_⟩
    have a := (h3 p b1).2.2.2.1
    rw [a]
    congr 1
    omega
  · obtain ⟨j, hj, ej, ek⟩ := hk c 0 (by decide) e
    by_cases q0 : j = 0
    · rw [← ej, q0]; exact h2.1
    · obtain ⟨p, t, b1, b2, b3, b4⟩ := h8 j hj q0
      omega
  · obtain ⟨j, hj, ej, ek⟩ := hk c k (by omega) e
    obtain ⟨j2, b1, b2, b3⟩ := h9 j t o hj ht2 (by rw [ej]; exact hn) hw0
    refine ⟨dn j2, by omega, ?_⟩
    have a := (h3 j2 b1).2.2.2.1
    rw [b2] at a
    exact a
end BFS
