/-! PURE: relaxing until nothing changes gives the distances -/
def bu (F : Nat → Nat) (k : Nat) : Nat := if 12 ≤ k then F (k - 12) else 10000
def bd (F : Nat → Nat) (k : Nat) : Nat := if k + 12 < 144 then F (k + 12) else 10000
def b1 (F : Nat → Nat) (k : Nat) : Nat := if bd F k < bu F k then bd F k else bu F k
def b2 (F : Nat → Nat) (k : Nat) : Nat := if k % 12 < 11 ∧ F (k + 1) < b1 F k then F (k + 1) else b1 F k
def bst (F : Nat → Nat) (k : Nat) : Nat := if 0 < k % 12 ∧ F (k - 1) < b2 F k then F (k - 1) else b2 F k
section RLX
variable {wd ht c0 k : Nat} {wl D : Nat → Int32} {F : Nat → Nat}
theorem b1_le : b1 F k ≤ bu F k ∧ b1 F k ≤ bd F k := by unfold b1; split <;> omega
theorem b2_le : b2 F k ≤ b1 F k ∧ (k % 12 < 11 → b2 F k ≤ F (k + 1)) := by unfold b2; split <;> omega
theorem bst_le : bst F k ≤ b2 F k ∧ (0 < k % 12 → bst F k ≤ F (k - 1)) := by unfold bst; split <;> omega
theorem bst_le4 : (12 ≤ k → bst F k ≤ F (k - 12)) ∧ (k + 12 < 144 → bst F k ≤ F (k + 12)) ∧ (k % 12 < 11 → bst F k ≤ F (k + 1)) ∧ (0 < k % 12 → bst F k ≤ F (k - 1)) := by
  have h1 := b1_le (F := F) (k := k)
  have h2 := b2_le (F := F) (k := k)
  have h3 := bst_le (F := F) (k := k)
  refine ⟨fun q => ?_, fun q => ?_, fun q => ?_, h3.2⟩
  · have e : bu F k = F (k - 12) := if_pos q
    omega
  · have e : bd F k = F (k + 12) := if_pos q
    omega
  · have := h2.2 q
    omega
theorem bst_ex : bst F k = 10000 ∨ (12 ≤ k ∧ bst F k = F (k - 12)) ∨ (k + 12 < 144 ∧ bst F k = F (k + 12)) ∨ (k % 12 < 11 ∧ bst F k = F (k + 1)) ∨ (0 < k % 12 ∧ bst F k = F (k - 1)) := by
  unfold bst
  split
  · rename_i q
    exact Or.inr (Or.inr (Or.inr (Or.inr ⟨q.1, rfl⟩)))
  unfold b2
  split
  · rename_i q
    exact Or.inr (Or.inr (Or.inr (Or.inl ⟨q.1, rfl⟩)))
  unfold b1
  split
  · unfold bd
    split
    · rename_i q
      exact Or.inr (Or.inr (Or.inl ⟨q, rfl⟩))
    · exact Or.inl rfl
  · unfold bu
    split
    · rename_i q
      exact Or.inr (Or.inl ⟨q, rfl⟩)
    · exact Or.inl rfl
def IV (ht c0 : Nat) (D : Nat → Int32) (F : Nat → Nat) : Prop := F c0 = 0 ∧ ∀ k, k < 144 → F k ≤ 10000 ∧ (F k < 10000 → k < 12 * ht ∧ ∃ j, D k = nI j ∧ j ≤ F k)
theorem IV.bul (V : IV ht c0 D F) (hk : k < 144) : bu F k ≤ 10000 := by
  unfold bu
  split
  · exact (V.2 _ (by omega)).1
  · exact Nat.le_refl _
theorem IV.bdl (V : IV ht c0 D F) : bd F k ≤ 10000 := by
  unfold bd
  split
  · exact (V.2 _ (by omega)).1
  · exact Nat.le_refl _
def rlx (F : Nat → Nat) (k : Nat) : Nat → Nat := fun i => if i = k then bst F k + 1 else F i
def isK (wd ht : Nat) (wl : Nat → Int32) (k : Nat) : Prop := inC wd ht k ∧ wl k = 0
theorem IV.start (hI : isD wd ht wl c0 D) (hc0 : c0 < 12 * ht) : IV ht c0 D (fun k => if k = c0 then 0 else 10000) := by
  refine ⟨if_pos rfl, fun k hk => ?_⟩
  show (if k = c0 then 0 else 10000) ≤ 10000 ∧ ((if k = c0 then 0 else 10000) < 10000 → _)
  by_cases q : k = c0
  · rw [if_pos q, q]
    exact ⟨by decide, fun _ => ⟨hc0, 0, hI.1, Nat.zero_le _⟩⟩
  · rw [if_neg q]
    exact ⟨by decide, fun h => absurd h (by decide)⟩
theorem IV.nb (hw : wd ≤ 12) (hh : ht ≤ 12) (hI : isD wd ht wl c0 D) (V : IV ht c0 D F) (hk : isK wd ht wl k) (h : bst F k < 10000) : ∃ j, D k = nI j ∧ j ≤ bst F k + 1 := by
  obtain ⟨⟨k1, k2⟩, k3⟩ := hk
  have main : ∀ o t, o < 144 → bst F k = F o → t < 4 → (inC wd ht o → nbr wd ht o t = some k) → ∃ j, D k = nI j ∧ j ≤ bst F k + 1 := by
    intro o t ho e ht4 hn
    obtain ⟨v1, v2⟩ := V.2 o ho
    obtain ⟨q1, j, q2, q3⟩ := v2 (by omega)
    have hne : D o ≠ -1 := by
      rw [q2]
      exact nI_nm1 (by omega)
    obtain ⟨j2, r1, r2, r3, -⟩ := hI.2.1 o q1 hne
    have ej : j = j2 := (nI_eq (by omega) (by omega)).mp (q2.symm.trans r2)
    obtain ⟨j3, s1, s2⟩ := hI.2.2.2.2 o j t k q1 (by omega) q2 ht4 (hn r3) k3
    exact ⟨j3, s2, by omega⟩
  rcases bst_ex (F := F) (k := k) with q | ⟨q, e⟩ | ⟨q, e⟩ | ⟨q, e⟩ | ⟨q, e⟩
  · omega
  · exact main (k - 12) 2 (by omega) e (by decide) (fun hi => by unfold nbr; simp only; rw [if_pos (by omega)]; congr 1; omega)
  · exact main (k + 12) 0 (by omega) e (by decide) (fun hi => by unfold nbr; simp only; rw [if_pos (by omega)]; congr 1)
  · refine main (k + 1) 3 (by omega) e (by decide) (fun hi => ?_)
    unfold nbr
    simp only
    rw [if_pos (by omega)]
    congr 1
  · refine main (k - 1) 1 (by omega) e (by decide) (fun hi => ?_)
    unfold nbr
    simp only
    rw [if_pos (by unfold inC at hi; omega)]
    congr 1
    omega
theorem IV.relax (hw : wd ≤ 12) (hh : ht ≤ 12) (hI : isD wd ht wl c0 D) (V : IV ht c0 D F) (hk : isK wd ht wl k) (h : bst F k + 1 < F k) : IV ht c0 D (rlx F k) := by
  have hk1 := inC_144 hw hh hk.1
  have hk2 := inC_lt hk.1
  have hle := (V.2 k hk1).1
  have hne : c0 ≠ k := fun e => by
    have := V.1
    rw [e] at this
    omega
  refine ⟨?_, fun i hi => ?_⟩
  · unfold rlx
    rw [if_neg hne]
    exact V.1
  · unfold rlx
    by_cases q : i = k
    · rw [if_pos q, q]
      exact ⟨by omega, fun _ => ⟨hk2, V.nb hw hh hI hk (by omega)⟩⟩
    · rw [if_neg q]
      exact V.2 i hi
theorem IV.fin (hw : wd ≤ 12) (hh : ht ≤ 12) (hI : isD wd ht wl c0 D) (V : IV ht c0 D F) (hT : ∀ k, k < 144 → isK wd ht wl k → F k ≤ bst F k + 1) : ∀ k, k < 144 → (F k < 10000 ∧ k < 12 * ht ∧ D k = nI (F k)) ∨ (F k = 10000 ∧ (k < 12 * ht → D k = -1)) := by
  have up : ∀ j, j < 144 → ∀ k, k < 12 * ht → D k = nI j → F k ≤ j := by
    intro j
    induction j with
    | zero =>
      intro _ k hk e
      rw [hI.2.2.2.1 k hk e, V.1]
      exact Nat.le_refl 0
    | succ j ih =>
      intro hj k hk e
      obtain ⟨t, o, ht4, hn, ho⟩ := hI.2.2.1 k j hk (by omega) e
      have hne : D k ≠ -1 := by rw [e]; exact nI_nm1 (by omega)
      obtain ⟨j2, r1, r2, r3, r4⟩ := hI.2.1 k hk hne
      have hkc : k ≠ c0 := fun q => by
        rw [q, hI.1] at e
        have := (nI_eq (by omega) (by omega)).mp e
        omega
      have hio := nbr_in hw r3 hn
      have hoF := ih (by omega) o (inC_lt hio) ho
      have hb : bst F k ≤ F o := by
        obtain ⟨l1, l2, l3, l4⟩ := bst_le4 (F := F) (k := k)
        have hk144 := inC_144 hw hh r3
        have ho144 := inC_144 hw hh hio
        unfold inC at r3
        unfold nbr at hn
        split at hn
        · split at hn
          · cases hn; exact l1 (by omega)
          · cases hn
        · split at hn
          · cases hn; exact l3 (by omega)
          · cases hn
        · split at hn
          · cases hn; exact l2 (by omega)
          · cases hn
        · split at hn
          · cases hn; exact l4 (by omega)
          · cases hn
      have := hT k (inC_144 hw hh r3) ⟨r3, r4 hkc⟩
      omega
  intro k hk
  obtain ⟨v1, v2⟩ := V.2 k hk
  by_cases q : F k < 10000
  · obtain ⟨q1, j, q2, q3⟩ := v2 q
    have hne : D k ≠ -1 := by rw [q2]; exact nI_nm1 (by omega)
    obtain ⟨j2, r1, r2, -, -⟩ := hI.2.1 k q1 hne
    have ej : j = j2 := (nI_eq (by omega) (by omega)).mp (q2.symm.trans r2)
    have := up j (by omega) k q1 q2
    exact Or.inl ⟨q, q1, by rw [q2]; congr 1; omega⟩
  · refine Or.inr ⟨by omega, fun hkh => Classical.byContradiction fun hne => ?_⟩
    obtain ⟨j2, r1, r2, -, -⟩ := hI.2.1 k hkh hne
    have := up j2 r1 k hkh r2
    omega
/-- the sum over the first n cells -/
def smF (F : Nat → Nat) : Nat → Nat
  | 0 => 0
  | n + 1 => smF F n + F n
theorem smF_n : ∀ n, n ≤ k → smF (rlx F k) n = smF F n
  | 0, _ => rfl
  | n + 1, h => by
    show smF (rlx F k) n + rlx F k n = smF F n + F n
    rw [smF_n n (by omega)]
    unfold rlx
    rw [if_neg (by omega)]
theorem smF_lt (h : bst F k + 1 < F k) : ∀ n, k < n → smF (rlx F k) n < smF F n
  | 0, hn => absurd hn (Nat.not_lt_zero _)
  | n + 1, hn => by
    show smF (rlx F k) n + rlx F k n < smF F n + F n
    by_cases q : n = k
    · subst q
      rw [smF_n n (Nat.le_refl n)]
      have e : rlx F n n = bst F n + 1 := if_pos rfl
      omega
    · have := smF_lt h n (by omega)
      have e : rlx F k n = F n := if_neg q
      omega
end RLX
theorem nI_d12 : ∀ c, c < 144 → nI c - nI c / 12 * 12 = nI (c % 12) ∧ nI c / 12 = nI (c / 12) := by decide +kernel
