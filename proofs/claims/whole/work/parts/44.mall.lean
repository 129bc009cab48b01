/-! THE MODEL: measureAll; what it has of the house -/
def CH (h μ : Nat → Nat → Int32) (wd ht nt nd : Nat) : Prop := μ 0 1 = nI wd ∧ μ 0 2 = nI ht ∧ μ 0 3 = h 0 2 ∧ μ 0 4 = nI nt ∧ μ 0 5 = nI nd ∧ μ 0 6 = h 0 5 ∧ μ 0 7 = h 0 6 ∧ (∀ k, k < 12 * ht → μ 1 k = h 1 k) ∧ (∀ t, t < nt → μ 2 t = h 2 t ∧ μ 3 t = h 3 t ∧ μ 4 t = h 4 t) ∧ ∀ d, d < nd → μ 6 d = h 2 (6 + d)
def FM (h : Nat → Nat → Int32) (ht nt nd : Nat) (f : Nat → Int32) : Prop := ∀ g, isG nt nd g → ∀ c, c < 144 → fdv ht (h (6 + g)) c (f (144 * g + c))
section MAL
variable {l : Launch} {G : px_Cg} {π π0 : px_H} {K : Option Value ⊕ String → px_H → Prop} {zm n nt nd wd ht : Nat} {μ h : Nat → Nat → Int32}
theorem CH.up {r : Nat} {f : Nat → Int32} (C : CH h μ wd ht nt nd) (hr : 7 ≤ r) : CH h (upr μ r f) wd ht nt nd := by
  unfold CH
  rw [upr_n (show 0 ≠ r by omega), upr_n (show 1 ≠ r by omega), upr_n (show 2 ≠ r by omega), upr_n (show 3 ≠ r by omega), upr_n (show 4 ≠ r by omega), upr_n (show 6 ≠ r by omega)]
  exact C
theorem t_M_measureAll (A : GA G) (S : SM zm μ π0 π) (B : HG h wd ht nt nd n) (C : CH h μ wd ht nt nd) (kk : ∀ f π1, FM h ht nt nd f → SM zm (upr μ 21 f) π0 π1 → K (.inl none) π1) :
    px_P l G y_M_measureAll b_M_measureAll 2 none (px_rm 3 70) true [.ref zm] π K := by
  have hG := A.1
  have hZ := A.2.1
  refine px_P.intro (by decide) hZ (by simp [Value.category]) (Nat.le_of_ble_eq_true rfl) rfl ?_
  intro Γ hl hR X Y hnm hs hbel
  subst hl
  refine pg_w ?_
  obtain ⟨⟨b0, b1, b2, b3, b4, b5, b6, b7, b8, b9⟩, D⟩ := B
  have S : SM zm (upr μ 21 (μ 21)) π0 π := by rw [upr_same]; exact S
  have e144 : (144 : Int32) = nI 144 := rfl
  have e6 : ∀ d, (6 : Int32) + nI d = nI (6 + d) := fun d => nI_add 6 d
  have two : ∀ r i f π1, i + r = nd → (∀ g, (g < nt ∨ (6 ≤ g ∧ g < 6 + i)) → ∀ c, c < 144 → fdv ht (h (6 + g)) c (f (144 * g + c))) → SM zm (upr μ 21 f) π0 π1 → px_G Γ G (px_Q Γ G true K) true 0 0 33 [some (.ref zm), some (.int (nI i))] [] π1 := by
    intro r
    induction r with
    | zero =>
      intro i f π1 hi hF S
      have ei : i = nd := by omega
      subst ei
      have R := S.1
      have C1 : CH h (upr μ 21 f) wd ht nt i := C.up (by decide)
      refine pg_iload_n X d_M_measureAll_33 rfl ?_
      refine pg_aload_n X d_M_measureAll_34 rfl ?_
      refine pg_getf X (f_M_116 hG) d_M_measureAll_35 (px_rd_of (by first | exact R.o | exact R _ (by decide) | assumption)) rfl ?_
      rw [C1.2.2.2.2.1]
      refine pg_icmp_ge X d_M_measureAll_38 (fun c1 => ?_) (fun c1 => ?_)
      · exact pg_vret X Y d_M_measureAll_65 (by decide) (Nat.zero_le _) (Nat.zero_le _) (kk f π1 (fun g hg => hF g hg) S)
      · simp (disch := omega) only [Int32.lt_iff_toInt_lt, Int32.le_iff_toInt_le, nI_toInt, px_l0, px_l1, px_l2, px_l3, px_l4, px_l5, px_l6, px_l10, px_l11, px_l12, px_l16, px_l30, px_l100, px_l400] at c1
        omega
    | succ r ih =>
      intro i f π1 hi hF S
      have R := S.1
      have C1 : CH h (upr μ 21 f) wd ht nt nd := C.up (by decide)
      refine pg_iload_n X d_M_measureAll_33 rfl ?_
      refine pg_aload_n X d_M_measureAll_34 rfl ?_
      refine pg_getf X (f_M_116 hG) d_M_measureAll_35 (px_rd_of (by first | exact R.o | exact R _ (by decide) | assumption)) rfl ?_
      rw [C1.2.2.2.2.1]
      refine pg_icmp_ge X d_M_measureAll_38 (fun c1 => ?_) (fun c1 => ?_)
      · simp (disch := omega) only [Int32.lt_iff_toInt_lt, Int32.le_iff_toInt_le, nI_toInt, px_l0, px_l1, px_l2, px_l3, px_l4, px_l5, px_l6, px_l10, px_l11, px_l12, px_l16, px_l30, px_l100, px_l400] at c1
        omega
      obtain ⟨c, hc1, hc2, hc3⟩ := D (6 + i) (Or.inr (by omega))
      refine pg_aload_n X d_M_measureAll_41 rfl ?_
      refine pg_sipush X (144) d_M_measureAll_42 (by decide) ?_
      refine pg_bipush X (6) d_M_measureAll_45 (by decide) ?_
      refine pg_iload_n X d_M_measureAll_47 rfl ?_
      refine pg_iadd X d_M_measureAll_48 ?_
      rw [e6]
      refine pg_imul X d_M_measureAll_49 ?_
      refine pg_aload_n X d_M_measureAll_50 rfl ?_
      refine pg_getf X (f_M_26 hG) d_M_measureAll_51 (px_rd_of (by first | exact R.o | exact R _ (by decide) | assumption)) rfl ?_
      refine pg_iload_n X d_M_measureAll_54 rfl ?_
      refine pg_ialdN X d_M_measureAll_55 (px_rd_of (by first | exact R.o | exact R _ (by decide) | assumption)) (by first | assumption | omega) (by first | assumption | omega) ?_
      rw [e144, pk_mul, C1.2.2.2.2.2.2.2.2.2 i (by omega), hc1]
      refine pc_V (ci := 4) (As := [_, _]) X Y d_M_measureAll_56 (c_M_126 hG) (i_M_measure hG) (v_M_measure hG) (fun r h => by rw [hG.2] at h; cases h; rfl) rfl rfl (Nat.le_of_ble_eq_true rfl) (by rw [hR]; exact ⟨by decide, by decide⟩) (by decide) (by decide) (by rw [hR]; first | decide | (dsimp only [px_rm]; omega)) (by rw [hR]; first | decide | (dsimp only [px_rm]; omega)) (px_rd_of (by first | exact R.o | assumption)) (t_M_measure A S C1.1 C1.2.1 b4.2 b5.2 (by omega) hc2 hc3 C1.2.2.2.2.2.2.2.1 (fun f' π2 h1 h2 S2 => ?_))
      have S2 : SM zm (upr μ 21 f') π0 π2 := by rw [upr_upr] at S2; exact S2
      refine pg_iinc1 X d_M_measureAll_59 ?_
      refine pg_goto X d_M_measureAll_62 ?_
      rw [nI_i1]
      rw [upr_s] at h1
      refine ih (i + 1) f' π2 (by omega) (fun g hg x hx => ?_) S2
      by_cases q : g = 6 + i
      · rw [q]
        exact h2 x hx
      · rw [h1 _ (by omega)]
        exact hF g (by omega) x hx
  have one : ∀ r i f π1, i + r = nt → (∀ g, g < i → ∀ c, c < 144 → fdv ht (h (6 + g)) c (f (144 * g + c))) → SM zm (upr μ 21 f) π0 π1 → px_G Γ G (px_Q Γ G true K) true 0 0 2 [some (.ref zm), some (.int (nI i))] [] π1 := by
    intro r
    induction r with
    | zero =>
      intro i f π1 hi hF S
      have ei : i = nt := by omega
      subst ei
      have R := S.1
      have C1 : CH h (upr μ 21 f) wd ht i nd := C.up (by decide)
      refine pg_iload_n X d_M_measureAll_2 rfl ?_
      refine pg_aload_n X d_M_measureAll_3 rfl ?_
      refine pg_getf X (f_M_113 hG) d_M_measureAll_4 (px_rd_of (by first | exact R.o | exact R _ (by decide) | assumption)) rfl ?_
      rw [C1.2.2.2.1]
      refine pg_icmp_ge X d_M_measureAll_7 (fun c1 => ?_) (fun c1 => ?_)
      · refine pg_iconst X (0) d_M_measureAll_31 (by decide) ?_
        refine pg_istore1 X d_M_measureAll_32 ?_
        exact two nd 0 f π1 (by omega) (fun g hg => hF g (by omega)) S
      · simp (disch := omega) only [Int32.lt_iff_toInt_lt, Int32.le_iff_toInt_le, nI_toInt, px_l0, px_l1, px_l2, px_l3, px_l4, px_l5, px_l6, px_l10, px_l11, px_l12, px_l16, px_l30, px_l100, px_l400] at c1
        omega
    | succ r ih =>
      intro i f π1 hi hF S
      have R := S.1
      have C1 : CH h (upr μ 21 f) wd ht nt nd := C.up (by decide)
      refine pg_iload_n X d_M_measureAll_2 rfl ?_
      refine pg_aload_n X d_M_measureAll_3 rfl ?_
      refine pg_getf X (f_M_113 hG) d_M_measureAll_4 (px_rd_of (by first | exact R.o | exact R _ (by decide) | assumption)) rfl ?_
      rw [C1.2.2.2.1]
      refine pg_icmp_ge X d_M_measureAll_7 (fun c1 => ?_) (fun c1 => ?_)
      · simp (disch := omega) only [Int32.lt_iff_toInt_lt, Int32.le_iff_toInt_le, nI_toInt, px_l0, px_l1, px_l2, px_l3, px_l4, px_l5, px_l6, px_l10, px_l11, px_l12, px_l16, px_l30, px_l100, px_l400] at c1
        omega
      obtain ⟨c, hc1, hc2, hc3⟩ := D i (Or.inl (by omega))
      refine pg_aload_n X d_M_measureAll_10 rfl ?_
      refine pg_sipush X (144) d_M_measureAll_11 (by decide) ?_
      refine pg_iload_n X d_M_measureAll_14 rfl ?_
      refine pg_imul X d_M_measureAll_15 ?_
      refine pg_aload_n X d_M_measureAll_16 rfl ?_
      refine pg_getf X (f_M_13 hG) d_M_measureAll_17 (px_rd_of (by first | exact R.o | exact R _ (by decide) | assumption)) rfl ?_
      refine pg_iload_n X d_M_measureAll_20 rfl ?_
      refine pg_ialdN X d_M_measureAll_21 (px_rd_of (by first | exact R.o | exact R _ (by decide) | assumption)) (by first | assumption | omega) (by first | assumption | omega) ?_
      rw [e144, pk_mul, (C1.2.2.2.2.2.2.2.2.1 i (by omega)).1, hc1]
      refine pc_V (ci := 4) (As := [_, _]) X Y d_M_measureAll_22 (c_M_126 hG) (i_M_measure hG) (v_M_measure hG) (fun r h => by rw [hG.2] at h; cases h; rfl) rfl rfl (Nat.le_of_ble_eq_true rfl) (by rw [hR]; exact ⟨by decide, by decide⟩) (by decide) (by decide) (by rw [hR]; first | decide | (dsimp only [px_rm]; omega)) (by rw [hR]; first | decide | (dsimp only [px_rm]; omega)) (px_rd_of (by first | exact R.o | assumption)) (t_M_measure A S C1.1 C1.2.1 b4.2 b5.2 (by omega) hc2 hc3 C1.2.2.2.2.2.2.2.1 (fun f' π2 h1 h2 S2 => ?_))
      have S2 : SM zm (upr μ 21 f') π0 π2 := by rw [upr_upr] at S2; exact S2
      refine pg_iinc1 X d_M_measureAll_25 ?_
      refine pg_goto X d_M_measureAll_28 ?_
      rw [nI_i1]
      rw [upr_s] at h1
      refine ih (i + 1) f' π2 (by omega) (fun g hg x hx => ?_) S2
      by_cases q : g = i
      · rw [q]
        exact h2 x hx
      · rw [h1 _ (by omega)]
        exact hF g (by omega) x hx
  refine pg_iconst X (0) d_M_measureAll_0 (by decide) ?_
  refine pg_istore1 X d_M_measureAll_1 ?_
  exact one nt 0 (μ 21) π (by omega) (fun g hg => absurd hg (Nat.not_lt_zero g)) S
end MAL
