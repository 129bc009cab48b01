/-! HOUSE: reads -/
/-- a goal that is there -/
def isG (nt nd g : Nat) : Prop := g < nt ∨ (6 ≤ g ∧ g < 6 + nd)
section HOU
variable {l : Launch} {G : px_Cg} {π : px_H} {K : Option Value ⊕ String → px_H → Prop} {zh n nt nd : Nat} {h : Nat → Nat → Int32}
theorem t_H_isGoal (A : GA G) (H : RH zh n h π) (h3 : h 0 3 = nI nt) (h4 : h 0 4 = nI nd) (ht : nt ≤ 6) (hd : nd ≤ 4) {g : Nat} (hg : g < 10) (k1 : isG nt nd g → K (.inl (some (.int 1))) π) (k0 : ¬ isG nt nd g → K (.inl (some (.int 0))) π) :
    px_P l G y_H_isGoal b_H_isGoal 2 (some .boolean) (px_rm 0 0) false [.ref zh, .int (nI g)] π K := by
  have hG := A.1
  have hZ := A.2.1
  refine px_P.intro (by decide) hZ (by simp [Value.category]) (Nat.le_of_ble_eq_true rfl) rfl ?_
  intro Γ hl hR X Y hnm hs hbel
  subst hl
  have ho := H.o
  rw [h3, h4] at ho
  have k1 : isG nt nd g → px_G Γ G (px_Q Γ G false K) false 0 0 29 [some (.ref zh), some (.int (nI g))] [] π := by
    intro hy
    refine pg_iconst X (1) d_H_isGoal_29 (by decide) ?_
    refine pg_goto X d_H_isGoal_30 ?_
    exact pg_iret X Y d_H_isGoal_34 rfl (by decide) (Nat.zero_le _) (Nat.zero_le _) (k1 hy)
  have k0 : ¬ isG nt nd g → px_G Γ G (px_Q Γ G false K) false 0 0 33 [some (.ref zh), some (.int (nI g))] [] π := by
    intro hy
    refine pg_iconst X (0) d_H_isGoal_33 (by decide) ?_
    exact pg_iret X Y d_H_isGoal_34 rfl (by decide) (Nat.zero_le _) (Nat.zero_le _) (k0 hy)
  refine pg_iload_n X d_H_isGoal_0 rfl ?_
  refine pg_if_lt X d_H_isGoal_1 (fun c => ?_) (fun c => ?_)
  · simp (disch := omega) only [Int32.lt_iff_toInt_lt, Int32.le_iff_toInt_le, nI_toInt, px_l0, px_l1, px_l2, px_l3, px_l4, px_l5, px_l6, px_l10, px_l11, px_l12, px_l16, px_l30, px_l100, px_l400] at c
    omega
  refine pg_iload_n X d_H_isGoal_4 rfl ?_
  refine pg_aload_n X d_H_isGoal_5 rfl ?_
  refine pg_getf X (f_H_21 hG) d_H_isGoal_6 (px_rd_of (by assumption)) rfl ?_
  refine pg_icmp_lt X d_H_isGoal_9 (fun c1 => ?_) (fun c1 => ?_)
  · simp (disch := omega) only [Int32.lt_iff_toInt_lt, Int32.le_iff_toInt_le, nI_toInt, px_l0, px_l1, px_l2, px_l3, px_l4, px_l5, px_l6, px_l10, px_l11, px_l12, px_l16, px_l30, px_l100, px_l400] at c1
    exact k1 (Or.inl (by omega))
  refine pg_iload_n X d_H_isGoal_12 rfl ?_
  refine pg_bipush X (6) d_H_isGoal_13 (by decide) ?_
  refine pg_icmp_lt X d_H_isGoal_15 (fun c2 => ?_) (fun c2 => ?_)
  · simp (disch := omega) only [Int32.lt_iff_toInt_lt, Int32.le_iff_toInt_le, nI_toInt, px_l0, px_l1, px_l2, px_l3, px_l4, px_l5, px_l6, px_l10, px_l11, px_l12, px_l16, px_l30, px_l100, px_l400] at c1 c2
    exact k0 (by unfold isG; omega)
  refine pg_iload_n X d_H_isGoal_18 rfl ?_
  refine pg_bipush X (6) d_H_isGoal_19 (by decide) ?_
  refine pg_aload_n X d_H_isGoal_21 rfl ?_
  refine pg_getf X (f_H_25 hG) d_H_isGoal_22 (px_rd_of (by assumption)) rfl ?_
  refine pg_iadd X d_H_isGoal_25 ?_
  have e6 : (6 : Int32) + nI nd = nI (6 + nd) := nI_add 6 nd
  rw [e6]
  refine pg_icmp_ge X d_H_isGoal_26 (fun c3 => ?_) (fun c3 => ?_)
  · simp (disch := omega) only [Int32.lt_iff_toInt_lt, Int32.le_iff_toInt_le, nI_toInt, px_l0, px_l1, px_l2, px_l3, px_l4, px_l5, px_l6, px_l10, px_l11, px_l12, px_l16, px_l30, px_l100, px_l400] at c1 c2 c3
    exact k0 (by unfold isG; omega)
  · simp (disch := omega) only [Int32.lt_iff_toInt_lt, Int32.le_iff_toInt_le, nI_toInt, px_l0, px_l1, px_l2, px_l3, px_l4, px_l5, px_l6, px_l10, px_l11, px_l12, px_l16, px_l30, px_l100, px_l400] at c1 c2 c3
    exact k1 (Or.inr (by omega))
theorem t_H_isGoalN (A : GA G) (H : RH zh n h π) {x : Int32} (hx : x < 0) (k0 : K (.inl (some (.int 0))) π) :
    px_P l G y_H_isGoal b_H_isGoal 2 (some .boolean) (px_rm 0 0) false [.ref zh, .int x] π K := by
  have hG := A.1
  have hZ := A.2.1
  refine px_P.intro (by decide) hZ (by simp [Value.category]) (Nat.le_of_ble_eq_true rfl) rfl ?_
  intro Γ hl hR X Y hnm hs hbel
  subst hl
  refine pg_iload_n X d_H_isGoal_0 rfl ?_
  refine pg_if_lt X d_H_isGoal_1 (fun c => ?_) (fun c => ?_)
  · refine pg_iload_n X d_H_isGoal_12 rfl ?_
    refine pg_bipush X (6) d_H_isGoal_13 (by decide) ?_
    refine pg_icmp_lt X d_H_isGoal_15 (fun c2 => ?_) (fun c2 => ?_)
    · refine pg_iconst X (0) d_H_isGoal_33 (by decide) ?_
      exact pg_iret X Y d_H_isGoal_34 rfl (by decide) (Nat.zero_le _) (Nat.zero_le _) (k0)
    · simp (disch := omega) only [Int32.lt_iff_toInt_lt, Int32.le_iff_toInt_le, nI_toInt, px_l0, px_l1, px_l2, px_l3, px_l4, px_l5, px_l6, px_l10, px_l11, px_l12, px_l16, px_l30, px_l100, px_l400] at hx c2
      omega
  · exact absurd hx c
theorem t_H_hasGoalIn (A : GA G) (H : RH zh n h π) (h3 : h 0 3 = nI nt) (h4 : h 0 4 = nI nd) (ht : nt ≤ 6) (hd : nd ≤ 4) {x : Int32} (k1 : (∃ g, g < 10 ∧ isG nt nd g ∧ h 2 g = x) → K (.inl (some (.int 1))) π) (k0 : (¬ ∃ g, g < 10 ∧ isG nt nd g ∧ h 2 g = x) → K (.inl (some (.int 0))) π) :
    px_P l G y_H_hasGoalIn b_H_hasGoalIn 3 (some .boolean) (px_rm 1 21) false [.ref zh, .int x] π K := by
  have hG := A.1
  have hZ := A.2.1
  refine px_P.intro (by decide) hZ (by simp [Value.category]) (Nat.le_of_ble_eq_true rfl) rfl ?_
  intro Γ hl hR X Y hnm hs hbel
  subst hl
  have ho := H.o
  have hgc := H.gc
  refine pg_iconst X (0) d_H_hasGoalIn_0 (by decide) ?_
  refine pg_istore2 X d_H_hasGoalIn_1 ?_
  have loop : ∀ k i, i + k = 10 → (∀ j, j < i → ¬ (isG nt nd j ∧ h 2 j = x)) → px_G Γ G (px_Q Γ G false K) false 0 0 2 [some (.ref zh), some (.int x), some (.int (nI i))] [] π := by
    intro k
    induction k with
    | zero =>
      intro i hi hno
      refine pg_iload_n X d_H_hasGoalIn_2 rfl ?_
      refine pg_bipush X (10) d_H_hasGoalIn_3 (by decide) ?_
      refine pg_icmp_ge X d_H_hasGoalIn_5 (fun c => ?_) (fun c => ?_)
      · refine pg_iconst X (0) d_H_hasGoalIn_34 (by decide) ?_
        exact pg_iret X Y d_H_hasGoalIn_35 rfl (by decide) (Nat.zero_le _) (Nat.zero_le _) (k0 (fun ⟨g, g1, g2⟩ => hno g (by omega) g2))
      · simp (disch := omega) only [Int32.lt_iff_toInt_lt, Int32.le_iff_toInt_le, nI_toInt, px_l0, px_l1, px_l2, px_l3, px_l4, px_l5, px_l6, px_l10, px_l11, px_l12, px_l16, px_l30, px_l100, px_l400] at c
        omega
    | succ k ih =>
      intro i hi hno
      have hin : vp_in (nI i) 10 := vp_in_nI (by omega) (by decide)
      have ecl : (nI i).toNatClampNeg = i := nI_clamp (by omega)
      have again : ¬ (isG nt nd i ∧ h 2 i = x) → px_G Γ G (px_Q Γ G false K) false 0 0 28 [some (.ref zh), some (.int x), some (.int (nI i))] [] π := by
        intro hni
        refine pg_iinc2 X d_H_hasGoalIn_28 ?_
        refine pg_goto X d_H_hasGoalIn_31 ?_
        have e1 : nI i + Int32.ofInt 1 = nI (i + 1) := nI_1 i
        rw [e1]
        exact ih (i + 1) (by omega) (fun j hj => by
          rcases Nat.lt_succ_iff_lt_or_eq.mp hj with q | q
          · exact hno j q
          · rw [q]; exact hni)
      refine pg_iload_n X d_H_hasGoalIn_2 rfl ?_
      refine pg_bipush X (10) d_H_hasGoalIn_3 (by decide) ?_
      refine pg_icmp_ge X d_H_hasGoalIn_5 (fun c => ?_) (fun c => ?_)
      · simp (disch := omega) only [Int32.lt_iff_toInt_lt, Int32.le_iff_toInt_le, nI_toInt, px_l0, px_l1, px_l2, px_l3, px_l4, px_l5, px_l6, px_l10, px_l11, px_l12, px_l16, px_l30, px_l100, px_l400] at c
        omega
      refine pg_aload_n X d_H_hasGoalIn_8 rfl ?_
      refine pg_iload_n X d_H_hasGoalIn_9 rfl ?_
      refine pc_V (ci := 0) (As := [_]) X Y d_H_hasGoalIn_10 (c_H_61 hG) (i_H_isGoal hG) (v_H_isGoal hG) (fun r h => by rw [hG.2] at h; cases h; rfl) rfl rfl (Nat.le_of_ble_eq_true rfl) (by rw [hR]; exact ⟨by decide, by decide⟩) (by decide) (by decide) (by rw [hR]; first | decide | (dsimp only [px_rm]; omega)) (by rw [hR]; first | decide | (dsimp only [px_rm]; omega)) (px_rd_of (by assumption)) (t_H_isGoal A H h3 h4 ht hd (g := i) (by omega) (fun hy => ?_) (fun hy => ?_))
      · refine pg_if_eq X d_H_hasGoalIn_13 (fun c1 => ?_) (fun c1 => ?_)
        · exact absurd c1 (by decide)
        refine pg_aload_n X d_H_hasGoalIn_16 rfl ?_
        refine pg_getf X (f_H_9 hG) d_H_hasGoalIn_17 (px_rd_of (by assumption)) rfl ?_
        refine pg_iload_n X d_H_hasGoalIn_20 rfl ?_
        refine pg_iald X d_H_hasGoalIn_21 (px_rd_of (by assumption)) (by assumption) ?_
        refine pg_iload_n X d_H_hasGoalIn_22 rfl ?_
        rw [ecl]
        refine pg_icmp_ne X d_H_hasGoalIn_23 (fun c2 => ?_) (fun c2 => ?_)
        · exact again (fun q => c2 q.2)
        · refine pg_iconst X (1) d_H_hasGoalIn_26 (by decide) ?_
          exact pg_iret X Y d_H_hasGoalIn_27 rfl (by decide) (Nat.zero_le _) (Nat.zero_le _) (k1 ⟨i, by omega, hy, c2⟩)
      · refine pg_if_eq X d_H_hasGoalIn_13 (fun c1 => ?_) (fun c1 => ?_)
        · exact again (fun q => hy q.1)
        · exact absurd rfl c1
  exact loop 10 0 rfl (fun j hj => absurd hj (Nat.not_lt_zero j))
end HOU
