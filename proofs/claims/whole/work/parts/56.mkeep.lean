/-! THE MODEL: keep -/
section MKE
variable {l : Launch} {G : px_Cg} {π π0 : px_H} {K : Option Value ⊕ String → px_H → Prop} {zm : Nat} {μ : Nat → Nat → Int32}
/-- f holds the visitors below i of μ -/
def k5 (μ : Nat → Nat → Int32) (f : Nat → Int32) (i : Nat) : Prop := ∀ v, v < i → f (5 * v) = μ 10 v ∧ f (5 * v + 1) = μ 11 v ∧ f (5 * v + 2) = μ 12 v ∧ f (5 * v + 3) = μ 13 v ∧ f (5 * v + 4) = μ 14 v
def k2d (μ : Nat → Nat → Int32) (f : Nat → Int32) (i : Nat) : Prop := ∀ d, d < i → f (2 * d) = μ 18 d ∧ f (2 * d + 1) = μ 19 d
theorem t_M_keep (A : GA G) (S : SM zm μ π0 π) (k : ∀ f g e π1, k5 μ f 16 → (∀ c, c < 144 → g c = μ 16 c) → k2d μ e 4 → SM zm (upr (upr (upr μ 15 f) 17 g) 20 e) π0 π1 → K (.inl none) π1) :
    px_P l G y_M_keep b_M_keep 2 none (px_rm 0 0) true [.ref zm] π K := by
  have hG := A.1
  have hZ := A.2.1
  refine px_P.intro (by decide) hZ (by simp [Value.category]) (Nat.le_of_ble_eq_true rfl) rfl ?_
  intro Γ hl hR X Y hnm hs hbel
  subst hl
  refine pg_w ?_
  have e5 : ∀ i, (5 : Int32) * nI i = nI (5 * i) := fun i => pk_mul 5 i
  have e2 : ∀ i, (2 : Int32) * nI i = nI (2 * i) := fun i => pk_mul 2 i
  have p1 : ∀ i, nI i + 1 = nI (i + 1) := nI_1
  have p2 : ∀ i, nI i + 2 = nI (i + 2) := fun i => nI_add i 2
  have p3 : ∀ i, nI i + 3 = nI (i + 3) := fun i => nI_add i 3
  have p4 : ∀ i, nI i + 4 = nI (i + 4) := fun i => nI_add i 4
  have e144 : (144 : Int32) = nI 144 := rfl
  have three : ∀ r i f g e π1, i + r = 4 → k5 μ f 16 → (∀ c, c < 144 → g c = μ 16 c) → k2d μ e i → SM zm (upr (upr (upr μ 15 f) 17 g) 20 e) π0 π1 → px_G Γ G (px_Q Γ G true K) true 0 0 121 [some (.ref zm), some (.int (nI i))] [] π1 := by
    intro r
    induction r with
    | zero =>
      intro i f g e π1 hi hf hg he S
      have ei : i = 4 := by omega
      subst ei
      refine pg_iload_n X d_M_keep_121 rfl ?_
      refine pg_iconst X (4) d_M_keep_122 (by decide) ?_
      refine pg_icmp_ge X d_M_keep_123 (fun c1 => ?_) (fun c1 => ?_)
      · exact pg_vret X Y d_M_keep_162 (by decide) (Nat.zero_le _) (Nat.zero_le _) (k f g e π1 hf hg he S)
      · exact absurd (by decide) c1
    | succ r ih =>
      intro i f g e π1 hi hf hg he S
      have R := S.1
      refine pg_iload_n X d_M_keep_121 rfl ?_
      refine pg_iconst X (4) d_M_keep_122 (by decide) ?_
      refine pg_icmp_ge X d_M_keep_123 (fun c1 => ?_) (fun c1 => ?_)
      · simp (disch := omega) only [Int32.lt_iff_toInt_lt, Int32.le_iff_toInt_le, nI_toInt, px_l0, px_l1, px_l2, px_l3, px_l4, px_l5, px_l6, px_l10, px_l11, px_l12, px_l16, px_l30, px_l100, px_l400] at c1
        omega
      refine pg_aload_n X d_M_keep_126 rfl ?_
      refine pg_getf X (f_M_75 hG) d_M_keep_127 (px_rd_of (by first | exact R.o | exact R _ (by decide) | assumption)) rfl ?_
      refine pg_iconst X (2) d_M_keep_130 (by decide) ?_
      refine pg_iload_n X d_M_keep_131 rfl ?_
      refine pg_imul X d_M_keep_132 ?_
      rw [e2]
      refine pg_aload_n X d_M_keep_133 rfl ?_
      refine pg_getf X (f_M_69 hG) d_M_keep_134 (px_rd_of (by first | exact R.o | exact R _ (by decide) | assumption)) rfl ?_
      refine pg_iload_n X d_M_keep_137 rfl ?_
      refine pg_ialdN X d_M_keep_138 (px_rd_of (by first | exact R.o | exact R _ (by decide) | assumption)) (by first | assumption | omega) (by first | assumption | omega) ?_
      refine pm_ist X S (fun _ => rfl) (by decide) d_M_keep_139 (by first | assumption | omega) (by first | assumption | omega) (fun π1 S => ?_)
      have R := S.1
      rw [up2_upr] at S
      have R := S.1
      refine pg_aload_n X d_M_keep_140 rfl ?_
      refine pg_getf X (f_M_75 hG) d_M_keep_141 (px_rd_of (by first | exact R.o | exact R _ (by decide) | assumption)) rfl ?_
      refine pg_iconst X (2) d_M_keep_144 (by decide) ?_
      refine pg_iload_n X d_M_keep_145 rfl ?_
      refine pg_imul X d_M_keep_146 ?_
      rw [e2]
      refine pg_iconst X (1) d_M_keep_147 (by decide) ?_
      refine pg_iadd X d_M_keep_148 ?_
      rw [p1]
      refine pg_aload_n X d_M_keep_149 rfl ?_
      refine pg_getf X (f_M_72 hG) d_M_keep_150 (px_rd_of (by first | exact R.o | exact R _ (by decide) | assumption)) rfl ?_
      refine pg_iload_n X d_M_keep_153 rfl ?_
      refine pg_ialdN X d_M_keep_154 (px_rd_of (by first | exact R.o | exact R _ (by decide) | assumption)) (by first | assumption | omega) (by first | assumption | omega) ?_
      refine pm_ist X S (fun _ => rfl) (by decide) d_M_keep_155 (by first | assumption | omega) (by first | assumption | omega) (fun π1 S => ?_)
      have R := S.1
      rw [up2_upr] at S
      refine pg_iinc1 X d_M_keep_156 ?_
      refine pg_goto X d_M_keep_159 ?_
      rw [nI_i1]
      refine ih (i + 1) f g _ _ (by omega) hf hg (fun d hd => ?_) S
      simp only [upr, upd]
      by_cases q : d = i
      · subst q
        simp
      · have := he d (by omega)
        simp [show ¬ 2 * d = 2 * i + 1 by omega, show ¬ 2 * d = 2 * i by omega, show ¬ 2 * d + 1 = 2 * i by omega, q, this]
  have two : ∀ r i f g π1, i + r = 144 → k5 μ f 16 → (∀ c, c < i → g c = μ 16 c) → SM zm (upr (upr μ 15 f) 17 g) π0 π1 → px_G Γ G (px_Q Γ G true K) true 0 0 94 [some (.ref zm), some (.int (nI i))] [] π1 := by
    intro r
    induction r with
    | zero =>
      intro i f g π1 hi hf hg S
      have ei : i = 144 := by omega
      subst ei
      refine pg_iload_n X d_M_keep_94 rfl ?_
      refine pg_sipush X (144) d_M_keep_95 (by decide) ?_
      refine pg_icmp_ge X d_M_keep_98 (fun c1 => ?_) (fun c1 => ?_)
      · refine pg_iconst X (0) d_M_keep_119 (by decide) ?_
        refine pg_istore1 X d_M_keep_120 ?_
        have S : SM zm (upr (upr (upr μ 15 f) 17 g) 20 (upr (upr μ 15 f) 17 g 20)) π0 π1 := by rw [upr_same]; exact S
        exact three 4 0 f g _ π1 rfl hf hg (fun d hd => absurd hd (Nat.not_lt_zero d)) S
      · exact absurd (by decide) c1
    | succ r ih =>
      intro i f g π1 hi hf hg S
      have R := S.1
      refine pg_iload_n X d_M_keep_94 rfl ?_
      refine pg_sipush X (144) d_M_keep_95 (by decide) ?_
      rw [e144]
      refine pg_icmp_ge X d_M_keep_98 (fun c1 => ?_) (fun c1 => ?_)
      · simp (disch := omega) only [Int32.lt_iff_toInt_lt, Int32.le_iff_toInt_le, nI_toInt, px_l0, px_l1, px_l2, px_l3, px_l4, px_l5, px_l6, px_l10, px_l11, px_l12, px_l16, px_l30, px_l100, px_l400] at c1
        omega
      refine pg_aload_n X d_M_keep_101 rfl ?_
      refine pg_getf X (f_M_66 hG) d_M_keep_102 (px_rd_of (by first | exact R.o | exact R _ (by decide) | assumption)) rfl ?_
      refine pg_iload_n X d_M_keep_105 rfl ?_
      refine pg_aload_n X d_M_keep_106 rfl ?_
      refine pg_getf X (f_M_63 hG) d_M_keep_107 (px_rd_of (by first | exact R.o | exact R _ (by decide) | assumption)) rfl ?_
      refine pg_iload_n X d_M_keep_110 rfl ?_
      refine pg_ialdN X d_M_keep_111 (px_rd_of (by first | exact R.o | exact R _ (by decide) | assumption)) (by first | assumption | omega) (by first | assumption | omega) ?_
      refine pm_ist X S (fun _ => rfl) (by decide) d_M_keep_112 (by first | assumption | omega) (by first | assumption | omega) (fun π1 S => ?_)
      have R := S.1
      rw [up2_upr] at S
      refine pg_iinc1 X d_M_keep_113 ?_
      refine pg_goto X d_M_keep_116 ?_
      rw [nI_i1]
      refine ih (i + 1) f _ _ (by omega) hf (fun c hc => ?_) S
      simp only [upr, upd]
      by_cases q : c = i
      · subst q
        simp
      · simp [q, hg c (by omega)]
  have one : ∀ r i f π1, i + r = 16 → k5 μ f i → SM zm (upr μ 15 f) π0 π1 → px_G Γ G (px_Q Γ G true K) true 0 0 2 [some (.ref zm), some (.int (nI i))] [] π1 := by
    intro r
    induction r with
    | zero =>
      intro i f π1 hi hf S
      have ei : i = 16 := by omega
      subst ei
      refine pg_iload_n X d_M_keep_2 rfl ?_
      refine pg_bipush X (16) d_M_keep_3 (by decide) ?_
      refine pg_icmp_ge X d_M_keep_5 (fun c1 => ?_) (fun c1 => ?_)
      · refine pg_iconst X (0) d_M_keep_92 (by decide) ?_
        refine pg_istore1 X d_M_keep_93 ?_
        have S : SM zm (upr (upr μ 15 f) 17 (upr μ 15 f 17)) π0 π1 := by rw [upr_same]; exact S
        exact two 144 0 f _ π1 rfl hf (fun c hc => absurd hc (Nat.not_lt_zero c)) S
      · exact absurd (by decide) c1
    | succ r ih =>
      intro i f π1 hi hf S
      have R := S.1
      refine pg_iload_n X d_M_keep_2 rfl ?_
      refine pg_bipush X (16) d_M_keep_3 (by decide) ?_
      refine pg_icmp_ge X d_M_keep_5 (fun c1 => ?_) (fun c1 => ?_)
      · simp (disch := omega) only [Int32.lt_iff_toInt_lt, Int32.le_iff_toInt_le, nI_toInt, px_l0, px_l1, px_l2, px_l3, px_l4, px_l5, px_l6, px_l10, px_l11, px_l12, px_l16, px_l30, px_l100, px_l400] at c1
        omega
      refine pg_aload_n X d_M_keep_8 rfl ?_
      refine pg_getf X (f_M_60 hG) d_M_keep_9 (px_rd_of (by first | exact R.o | exact R _ (by decide) | assumption)) rfl ?_
      refine pg_iconst X (5) d_M_keep_12 (by decide) ?_
      refine pg_iload_n X d_M_keep_13 rfl ?_
      refine pg_imul X d_M_keep_14 ?_
      rw [e5]
      refine pg_aload_n X d_M_keep_15 rfl ?_
      refine pg_getf X (f_M_45 hG) d_M_keep_16 (px_rd_of (by first | exact R.o | exact R _ (by decide) | assumption)) rfl ?_
      refine pg_iload_n X d_M_keep_19 rfl ?_
      refine pg_ialdN X d_M_keep_20 (px_rd_of (by first | exact R.o | exact R _ (by decide) | assumption)) (by first | assumption | omega) (by first | assumption | omega) ?_
      refine pm_ist X S (fun _ => rfl) (by decide) d_M_keep_21 (by first | assumption | omega) (by first | assumption | omega) (fun π1 S => ?_)
      have R := S.1
      rw [up2_upr] at S
      have R := S.1
      refine pg_aload_n X d_M_keep_22 rfl ?_
      refine pg_getf X (f_M_60 hG) d_M_keep_23 (px_rd_of (by first | exact R.o | exact R _ (by decide) | assumption)) rfl ?_
      refine pg_iconst X (5) d_M_keep_26 (by decide) ?_
      refine pg_iload_n X d_M_keep_27 rfl ?_
      refine pg_imul X d_M_keep_28 ?_
      rw [e5]
      refine pg_iconst X (1) d_M_keep_29 (by decide) ?_
      refine pg_iadd X d_M_keep_30 ?_
      rw [p1]
      refine pg_aload_n X d_M_keep_31 rfl ?_
      refine pg_getf X (f_M_48 hG) d_M_keep_32 (px_rd_of (by first | exact R.o | exact R _ (by decide) | assumption)) rfl ?_
      refine pg_iload_n X d_M_keep_35 rfl ?_
      refine pg_ialdN X d_M_keep_36 (px_rd_of (by first | exact R.o | exact R _ (by decide) | assumption)) (by first | assumption | omega) (by first | assumption | omega) ?_
      refine pm_ist X S (fun _ => rfl) (by decide) d_M_keep_37 (by first | assumption | omega) (by first | assumption | omega) (fun π1 S => ?_)
      have R := S.1
      rw [up2_upr] at S
      have R := S.1
      refine pg_aload_n X d_M_keep_38 rfl ?_
      refine pg_getf X (f_M_60 hG) d_M_keep_39 (px_rd_of (by first | exact R.o | exact R _ (by decide) | assumption)) rfl ?_
      refine pg_iconst X (5) d_M_keep_42 (by decide) ?_
      refine pg_iload_n X d_M_keep_43 rfl ?_
      refine pg_imul X d_M_keep_44 ?_
      rw [e5]
      refine pg_iconst X (2) d_M_keep_45 (by decide) ?_
      refine pg_iadd X d_M_keep_46 ?_
      rw [p2]
      refine pg_aload_n X d_M_keep_47 rfl ?_
      refine pg_getf X (f_M_51 hG) d_M_keep_48 (px_rd_of (by first | exact R.o | exact R _ (by decide) | assumption)) rfl ?_
      refine pg_iload_n X d_M_keep_51 rfl ?_
      refine pg_ialdN X d_M_keep_52 (px_rd_of (by first | exact R.o | exact R _ (by decide) | assumption)) (by first | assumption | omega) (by first | assumption | omega) ?_
      refine pm_ist X S (fun _ => rfl) (by decide) d_M_keep_53 (by first | assumption | omega) (by first | assumption | omega) (fun π1 S => ?_)
      have R := S.1
      rw [up2_upr] at S
      have R := S.1
      refine pg_aload_n X d_M_keep_54 rfl ?_
      refine pg_getf X (f_M_60 hG) d_M_keep_55 (px_rd_of (by first | exact R.o | exact R _ (by decide) | assumption)) rfl ?_
      refine pg_iconst X (5) d_M_keep_58 (by decide) ?_
      refine pg_iload_n X d_M_keep_59 rfl ?_
      refine pg_imul X d_M_keep_60 ?_
      rw [e5]
      refine pg_iconst X (3) d_M_keep_61 (by decide) ?_
      refine pg_iadd X d_M_keep_62 ?_
      rw [p3]
      refine pg_aload_n X d_M_keep_63 rfl ?_
      refine pg_getf X (f_M_54 hG) d_M_keep_64 (px_rd_of (by first | exact R.o | exact R _ (by decide) | assumption)) rfl ?_
      refine pg_iload_n X d_M_keep_67 rfl ?_
      refine pg_ialdN X d_M_keep_68 (px_rd_of (by first | exact R.o | exact R _ (by decide) | assumption)) (by first | assumption | omega) (by first | assumption | omega) ?_
      refine pm_ist X S (fun _ => rfl) (by decide) d_M_keep_69 (by first | assumption | omega) (by first | assumption | omega) (fun π1 S => ?_)
      have R := S.1
      rw [up2_upr] at S
      have R := S.1
      refine pg_aload_n X d_M_keep_70 rfl ?_
      refine pg_getf X (f_M_60 hG) d_M_keep_71 (px_rd_of (by first | exact R.o | exact R _ (by decide) | assumption)) rfl ?_
      refine pg_iconst X (5) d_M_keep_74 (by decide) ?_
      refine pg_iload_n X d_M_keep_75 rfl ?_
      refine pg_imul X d_M_keep_76 ?_
      rw [e5]
      refine pg_iconst X (4) d_M_keep_77 (by decide) ?_
      refine pg_iadd X d_M_keep_78 ?_
      rw [p4]
      refine pg_aload_n X d_M_keep_79 rfl ?_
      refine pg_getf X (f_M_57 hG) d_M_keep_80 (px_rd_of (by first | exact R.o | exact R _ (by decide) | assumption)) rfl ?_
      refine pg_iload_n X d_M_keep_83 rfl ?_
      refine pg_ialdN X d_M_keep_84 (px_rd_of (by first | exact R.o | exact R _ (by decide) | assumption)) (by first | assumption | omega) (by first | assumption | omega) ?_
      refine pm_ist X S (fun _ => rfl) (by decide) d_M_keep_85 (by first | assumption | omega) (by first | assumption | omega) (fun π1 S => ?_)
      have R := S.1
      rw [up2_upr] at S
      refine pg_iinc1 X d_M_keep_86 ?_
      refine pg_goto X d_M_keep_89 ?_
      rw [nI_i1]
      refine ih (i + 1) _ _ (by omega) (fun v hv => ?_) S
      simp only [upr, upd]
      by_cases q : v = i
      · subst q
        simp
      · have := hf v (by omega)
        simp [show ¬ 5 * v = 5 * i by omega, show ¬ 5 * v = 5 * i + 1 by omega, show ¬ 5 * v = 5 * i + 2 by omega, show ¬ 5 * v = 5 * i + 3 by omega, show ¬ 5 * v = 5 * i + 4 by omega, show ¬ 5 * v + 1 = 5 * i by omega, show ¬ 5 * v + 1 = 5 * i + 2 by omega, show ¬ 5 * v + 1 = 5 * i + 3 by omega, show ¬ 5 * v + 1 = 5 * i + 4 by omega, show ¬ 5 * v + 2 = 5 * i by omega, show ¬ 5 * v + 2 = 5 * i + 1 by omega, show ¬ 5 * v + 2 = 5 * i + 3 by omega, show ¬ 5 * v + 2 = 5 * i + 4 by omega, show ¬ 5 * v + 3 = 5 * i by omega, show ¬ 5 * v + 3 = 5 * i + 1 by omega, show ¬ 5 * v + 3 = 5 * i + 2 by omega, show ¬ 5 * v + 3 = 5 * i + 4 by omega, show ¬ 5 * v + 4 = 5 * i by omega, show ¬ 5 * v + 4 = 5 * i + 1 by omega, show ¬ 5 * v + 4 = 5 * i + 2 by omega, show ¬ 5 * v + 4 = 5 * i + 3 by omega, q, this]
  refine pg_iconst X (0) d_M_keep_0 (by decide) ?_
  refine pg_istore1 X d_M_keep_1 ?_
  have S : SM zm (upr μ 15 (μ 15)) π0 π := by rw [upr_same]; exact S
  exact one 16 0 _ π rfl (fun v hv => absurd hv (Nat.not_lt_zero v)) S
end MKE
