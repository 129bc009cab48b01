/-! HOUSE: reads -/
section HOU
variable {l : Launch} {G : px_Cg} {π : px_H} {zh n nt nd : Nat} {h : Nat → Nat → Int32}
/-- a goal that is there -/
def isG (nt nd g : Nat) : Prop := g < nt ∨ (6 ≤ g ∧ g < 6 + nd)
theorem isG_dec (nt nd g : Nat) : isG nt nd g ∨ ¬ isG nt nd g := Classical.em _
theorem t_H_isGoal (hG : gg G) (hZ : px_Zg G) (H : RH zh n h π) (h3 : h 0 3 = nI nt) (h4 : h 0 4 = nI nd) (ht : nt ≤ 6) (hd : nd ≤ 4) {g : Nat} (hg : g < 10) :
    px_P l G y_H_isGoal b_H_isGoal 2 (some .boolean) (px_rm 0 0) false [.ref zh, .int (nI g)] π (fun r π' => ((isG nt nd g ∧ r = .inl (some (.int 1))) ∨ (¬ isG nt nd g ∧ r = .inl (some (.int 0)))) ∧ π' = π) := by
  refine px_P.intro (by decide) hZ (by simp [Value.category]) (Nat.le_of_ble_eq_true rfl) rfl ?_
  intro Γ hl hR X Y hnm hs
  subst hl
  have ho := H.o
  rw [h3, h4] at ho
  have k1 : isG nt nd g → px_G Γ G (px_Q Γ G false (fun r π' => ((isG nt nd g ∧ r = .inl (some (.int 1))) ∨ (¬ isG nt nd g ∧ r = .inl (some (.int 0)))) ∧ π' = π)) false 0 0 29 [some (.ref zh), some (.int (nI g))] [] π := by
    intro hy
    refine pg_iconst X (1) d_H_isGoal_29 (by decide) ?_
    refine pg_goto X d_H_isGoal_30 ?_
    exact pg_iret X Y d_H_isGoal_34 rfl (by decide) (Nat.zero_le _) (Nat.zero_le _) (⟨Or.inl ⟨hy, rfl⟩, rfl⟩)
  have k0 : ¬ isG nt nd g → px_G Γ G (px_Q Γ G false (fun r π' => ((isG nt nd g ∧ r = .inl (some (.int 1))) ∨ (¬ isG nt nd g ∧ r = .inl (some (.int 0)))) ∧ π' = π)) false 0 0 33 [some (.ref zh), some (.int (nI g))] [] π := by
    intro hy
    refine pg_iconst X (0) d_H_isGoal_33 (by decide) ?_
    exact pg_iret X Y d_H_isGoal_34 rfl (by decide) (Nat.zero_le _) (Nat.zero_le _) (⟨Or.inr ⟨hy, rfl⟩, rfl⟩)
  refine pg_iload_n X d_H_isGoal_0 rfl ?_
  refine pg_if_lt X d_H_isGoal_1 (fun c => ?_) (fun c => ?_)
  · simp (disch := omega) only [Int32.lt_iff_toInt_lt, Int32.le_iff_toInt_le, nI_toInt, px_l0, px_l1, px_l2, px_l3, px_l4, px_l5, px_l6, px_l10, px_l11, px_l12, px_l16, px_l30, px_l100, px_l400] at c
    omega
  refine pg_iload_n X d_H_isGoal_4 rfl ?_
  refine pg_aload_n X d_H_isGoal_5 rfl ?_
  refine pg_getf X (f_H_21 hG) d_H_isGoal_6 (px_rd_of (by assumption)) rfl ?_
  refine pg_icmp_lt X d_H_isGoal_9 (fun c1 => ?_) (fun c1 => ?_)
  · simp (disch := omega) only [Int32.lt_iff_toInt_lt, Int32.le_iff_toInt_le, nI_toInt, px_l0, px_l1, px_l2, px_l3, px_l4, px_l5, px_l6, px_l10, px_l11, px_l12, px_l16, px_l30, px_l100, px_l400] at c1
    exact k1 (Or.inl (by omega))
  refine pg_iload_n X d_H_isGoal_12 rfl ?_
  refine pg_bipush X (6) d_H_isGoal_13 (by decide) ?_
  refine pg_icmp_lt X d_H_isGoal_15 (fun c2 => ?_) (fun c2 => ?_)
  · simp (disch := omega) only [Int32.lt_iff_toInt_lt, Int32.le_iff_toInt_le, nI_toInt, px_l0, px_l1, px_l2, px_l3, px_l4, px_l5, px_l6, px_l10, px_l11, px_l12, px_l16, px_l30, px_l100, px_l400] at c1 c2
    exact k0 (by unfold isG; omega)
  refine pg_iload_n X d_H_isGoal_18 rfl ?_
  refine pg_bipush X (6) d_H_isGoal_19 (by decide) ?_
  refine pg_aload_n X d_H_isGoal_21 rfl ?_
  refine pg_getf X (f_H_25 hG) d_H_isGoal_22 (px_rd_of (by assumption)) rfl ?_
  refine pg_iadd X d_H_isGoal_25 ?_
  have e6 : (6 : Int32) + nI nd = nI (6 + nd) := nI_add 6 nd
  rw [e6]
  refine pg_icmp_ge X d_H_isGoal_26 (fun c3 => ?_) (fun c3 => ?_)
  · simp (disch := omega) only [Int32.lt_iff_toInt_lt, Int32.le_iff_toInt_le, nI_toInt, px_l0, px_l1, px_l2, px_l3, px_l4, px_l5, px_l6, px_l10, px_l11, px_l12, px_l16, px_l30, px_l100, px_l400] at c1 c2 c3
    exact k0 (by unfold isG; omega)
  · simp (disch := omega) only [Int32.lt_iff_toInt_lt, Int32.le_iff_toInt_le, nI_toInt, px_l0, px_l1, px_l2, px_l3, px_l4, px_l5, px_l6, px_l10, px_l11, px_l12, px_l16, px_l30, px_l100, px_l400] at c1 c2 c3
    exact k1 (Or.inr (by omega))
end HOU
