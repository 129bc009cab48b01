/-! THE MODEL: putBack -/
section MPB
variable {l : Launch} {G : px_Cg} {π π0 : px_H} {K : Option Value ⊕ String → px_H → Prop} {zm : Nat} {μ : Nat → Nat → Int32}
def PB (μ μ' : Nat → Nat → Int32) (i j d : Nat) : Prop := (∀ r, (r ≤ 9 ∨ r = 15 ∨ r = 17 ∨ 20 ≤ r) → μ' r = μ r) ∧ (∀ v, v < i → μ' 10 v = μ 15 (5 * v) ∧ μ' 11 v = μ 15 (5 * v + 1) ∧ μ' 12 v = μ 15 (5 * v + 2) ∧ μ' 13 v = μ 15 (5 * v + 3) ∧ μ' 14 v = μ 15 (5 * v + 4)) ∧ (∀ c, c < j → μ' 16 c = μ 17 c) ∧ ∀ e, e < d → μ' 18 e = μ 20 (2 * e) ∧ μ' 19 e = μ 20 (2 * e + 1)
theorem t_M_putBack (A : GA G) (S : SM zm μ π0 π) (k : ∀ μ' π1, PB μ μ' 16 144 4 → SM zm μ' π0 π1 → K (.inl none) π1) :
    px_P l G y_M_putBack b_M_putBack 2 none (px_rm 0 0) true [.ref zm] π K := by
  have hG := A.1
  have hZ := A.2.1
  refine px_P.intro (by decide) hZ (by simp [Value.category]) (Nat.le_of_ble_eq_true rfl) rfl ?_
  intro Γ hl hR X Y hnm hs hbel
  subst hl
  refine pg_w ?_
  have e5 : ∀ i, (5 : Int32) * nI i = nI (5 * i) := fun i => pk_mul 5 i
  have e2 : ∀ i, (2 : Int32) * nI i = nI (2 * i) := fun i => pk_mul 2 i
  have p1 : ∀ i, nI i + 1 = nI (i + 1) := nI_1
  have p2 : ∀ i, nI i + 2 = nI (i + 2) := fun i => nI_add i 2
  have p3 : ∀ i, nI i + 3 = nI (i + 3) := fun i => nI_add i 3
  have p4 : ∀ i, nI i + 4 = nI (i + 4) := fun i => nI_add i 4
  have e144 : (144 : Int32) = nI 144 := rfl
  have three : ∀ r i μ1 π1, i + r = 4 → PB μ μ1 16 144 i → SM zm μ1 π0 π1 → px_G Γ G (px_Q Γ G true K) true 0 0 121 [some (.ref zm), some (.int (nI i))] [] π1 := by
    intro r
    induction r with
    | zero =>
      intro i μ1 π1 hi P S
      have ei : i = 4 := by omega
      subst ei
      refine pg_iload_n X d_M_putBack_121 rfl ?_
      refine pg_iconst X (4) d_M_putBack_122 (by decide) ?_
      refine pg_icmp_ge X d_M_putBack_123 (fun c1 => ?_) (fun c1 => ?_)
      · exact pg_vret X Y d_M_putBack_162 (by decide) (Nat.zero_le _) (Nat.zero_le _) (k μ1 π1 P S)
      · exact absurd (by decide) c1
    | succ r ih =>
      intro i μ1 π1 hi P S
      have R := S.1
      obtain ⟨P1, P2, P3, P4⟩ := P
      refine pg_iload_n X d_M_putBack_121 rfl ?_
      refine pg_iconst X (4) d_M_putBack_122 (by decide) ?_
      refine pg_icmp_ge X d_M_putBack_123 (fun c1 => ?_) (fun c1 => ?_)
      · simp (disch := omega) only [Int32.lt_iff_toInt_lt, Int32.le_iff_toInt_le, nI_toInt, px_l0, px_l1, px_l2, px_l3, px_l4, px_l5, px_l6, px_l10, px_l11, px_l12, px_l16, px_l30, px_l100, px_l400] at c1
        omega
      refine pg_aload_n X d_M_putBack_126 rfl ?_
      refine pg_getf X (f_M_69 hG) d_M_putBack_127 (px_rd_of (by first | exact R.o | exact R _ (by decide) | assumption)) rfl ?_
      refine pg_iload_n X d_M_putBack_130 rfl ?_
      refine pg_aload_n X d_M_putBack_131 rfl ?_
      refine pg_getf X (f_M_75 hG) d_M_putBack_132 (px_rd_of (by first | exact R.o | exact R _ (by decide) | assumption)) rfl ?_
      refine pg_iconst X (2) d_M_putBack_135 (by decide) ?_
      refine pg_iload_n X d_M_putBack_136 rfl ?_
      refine pg_imul X d_M_putBack_137 ?_
      rw [e2]
      refine pg_ialdN X d_M_putBack_138 (px_rd_of (by first | exact R.o | exact R _ (by decide) | assumption)) (by first | assumption | omega) (by first | assumption | omega) ?_
      refine pm_ist X S (fun _ => rfl) (by decide) d_M_putBack_139 (by first | assumption | omega) (by first | assumption | omega) (fun π1 S => ?_)
      have R := S.1
      refine pg_aload_n X d_M_putBack_140 rfl ?_
      refine pg_getf X (f_M_72 hG) d_M_putBack_141 (px_rd_of (by first | exact R.o | exact R _ (by decide) | assumption)) rfl ?_
      refine pg_iload_n X d_M_putBack_144 rfl ?_
      refine pg_aload_n X d_M_putBack_145 rfl ?_
      refine pg_getf X (f_M_75 hG) d_M_putBack_146 (px_rd_of (by first | exact R.o | exact R _ (by decide) | assumption)) rfl ?_
      refine pg_iconst X (2) d_M_putBack_149 (by decide) ?_
      refine pg_iload_n X d_M_putBack_150 rfl ?_
      refine pg_imul X d_M_putBack_151 ?_
      rw [e2]
      refine pg_iconst X (1) d_M_putBack_152 (by decide) ?_
      refine pg_iadd X d_M_putBack_153 ?_
      rw [p1]
      refine pg_ialdN X d_M_putBack_154 (px_rd_of (by first | exact R.o | exact R _ (by decide) | assumption)) (by first | assumption | omega) (by first | assumption | omega) ?_
      refine pm_ist X S (fun _ => rfl) (by decide) d_M_putBack_155 (by first | assumption | omega) (by first | assumption | omega) (fun π1 S => ?_)
      have R := S.1
      refine pg_iinc1 X d_M_putBack_156 ?_
      refine pg_goto X d_M_putBack_159 ?_
      rw [nI_i1]
      refine ih (i + 1) _ _ (by omega) ⟨fun r hr => ?_, fun v hv => ?_, fun c hc => ?_, fun e he => ?_⟩ S
      · rw [up2_r (by omega), up2_r (by omega)]
        exact P1 r hr
      · simp only [up2_r (show (10 : Nat) ≠ 19 by decide), up2_r (show (10 : Nat) ≠ 18 by decide), up2_r (show (11 : Nat) ≠ 19 by decide), up2_r (show (11 : Nat) ≠ 18 by decide), up2_r (show (12 : Nat) ≠ 19 by decide), up2_r (show (12 : Nat) ≠ 18 by decide), up2_r (show (13 : Nat) ≠ 19 by decide), up2_r (show (13 : Nat) ≠ 18 by decide), up2_r (show (14 : Nat) ≠ 19 by decide), up2_r (show (14 : Nat) ≠ 18 by decide)]
        exact P2 v hv
      · rw [up2_r (by decide), up2_r (by decide)]
        exact P3 c hc
      · have e20 := P1 20 (by decide)
        by_cases q : e = i
        · subst q
          simp [up2, e20]
        · have := P4 e (by omega)
          simp [up2, q, this]
  have two : ∀ r i μ1 π1, i + r = 144 → PB μ μ1 16 i 0 → SM zm μ1 π0 π1 → px_G Γ G (px_Q Γ G true K) true 0 0 94 [some (.ref zm), some (.int (nI i))] [] π1 := by
    intro r
    induction r with
    | zero =>
      intro i μ1 π1 hi P S
      have ei : i = 144 := by omega
      subst ei
      refine pg_iload_n X d_M_putBack_94 rfl ?_
      refine pg_sipush X (144) d_M_putBack_95 (by decide) ?_
      refine pg_icmp_ge X d_M_putBack_98 (fun c1 => ?_) (fun c1 => ?_)
      · refine pg_iconst X (0) d_M_putBack_119 (by decide) ?_
        refine pg_istore1 X d_M_putBack_120 ?_
        exact three 4 0 μ1 π1 rfl P S
      · exact absurd (by decide) c1
    | succ r ih =>
      intro i μ1 π1 hi P S
      have R := S.1
      obtain ⟨P1, P2, P3, P4⟩ := P
      refine pg_iload_n X d_M_putBack_94 rfl ?_
      refine pg_sipush X (144) d_M_putBack_95 (by decide) ?_
      rw [e144]
      refine pg_icmp_ge X d_M_putBack_98 (fun c1 => ?_) (fun c1 => ?_)
      · simp (disch := omega) only [Int32.lt_iff_toInt_lt, Int32.le_iff_toInt_le, nI_toInt, px_l0, px_l1, px_l2, px_l3, px_l4, px_l5, px_l6, px_l10, px_l11, px_l12, px_l16, px_l30, px_l100, px_l400] at c1
        omega
      refine pg_aload_n X d_M_putBack_101 rfl ?_
      refine pg_getf X (f_M_63 hG) d_M_putBack_102 (px_rd_of (by first | exact R.o | exact R _ (by decide) | assumption)) rfl ?_
      refine pg_iload_n X d_M_putBack_105 rfl ?_
      refine pg_aload_n X d_M_putBack_106 rfl ?_
      refine pg_getf X (f_M_66 hG) d_M_putBack_107 (px_rd_of (by first | exact R.o | exact R _ (by decide) | assumption)) rfl ?_
      refine pg_iload_n X d_M_putBack_110 rfl ?_
      refine pg_ialdN X d_M_putBack_111 (px_rd_of (by first | exact R.o | exact R _ (by decide) | assumption)) (by first | assumption | omega) (by first | assumption | omega) ?_
      refine pm_ist X S (fun _ => rfl) (by decide) d_M_putBack_112 (by first | assumption | omega) (by first | assumption | omega) (fun π1 S => ?_)
      have R := S.1
      refine pg_iinc1 X d_M_putBack_113 ?_
      refine pg_goto X d_M_putBack_116 ?_
      rw [nI_i1]
      refine ih (i + 1) _ _ (by omega) ⟨fun r hr => ?_, fun v hv => ?_, fun c hc => ?_, fun e he => absurd he (Nat.not_lt_zero e)⟩ S
      · rw [up2_r (by omega)]
        exact P1 r hr
      · simp only [up2_r (show (10 : Nat) ≠ 16 by decide), up2_r (show (11 : Nat) ≠ 16 by decide), up2_r (show (12 : Nat) ≠ 16 by decide), up2_r (show (13 : Nat) ≠ 16 by decide), up2_r (show (14 : Nat) ≠ 16 by decide)]
        exact P2 v hv
      · have e17 := P1 17 (by decide)
        by_cases q : c = i
        · subst q
          simp [up2, e17]
        · have := P3 c (by omega)
          simp [up2, q, this]
  have one : ∀ r i μ1 π1, i + r = 16 → PB μ μ1 i 0 0 → SM zm μ1 π0 π1 → px_G Γ G (px_Q Γ G true K) true 0 0 2 [some (.ref zm), some (.int (nI i))] [] π1 := by
    intro r
    induction r with
    | zero =>
      intro i μ1 π1 hi P S
      have ei : i = 16 := by omega
      subst ei
      refine pg_iload_n X d_M_putBack_2 rfl ?_
      refine pg_bipush X (16) d_M_putBack_3 (by decide) ?_
      refine pg_icmp_ge X d_M_putBack_5 (fun c1 => ?_) (fun c1 => ?_)
      · refine pg_iconst X (0) d_M_putBack_92 (by decide) ?_
        refine pg_istore1 X d_M_putBack_93 ?_
        exact two 144 0 μ1 π1 rfl P S
      · exact absurd (by decide) c1
    | succ r ih =>
      intro i μ1 π1 hi P S
      have R := S.1
      obtain ⟨P1, P2, P3, P4⟩ := P
      refine pg_iload_n X d_M_putBack_2 rfl ?_
      refine pg_bipush X (16) d_M_putBack_3 (by decide) ?_
      refine pg_icmp_ge X d_M_putBack_5 (fun c1 => ?_) (fun c1 => ?_)
      · simp (disch := omega) only [Int32.lt_iff_toInt_lt, Int32.le_iff_toInt_le, nI_toInt, px_l0, px_l1, px_l2, px_l3, px_l4, px_l5, px_l6, px_l10, px_l11, px_l12, px_l16, px_l30, px_l100, px_l400] at c1
        omega
      refine pg_aload_n X d_M_putBack_8 rfl ?_
      refine pg_getf X (f_M_45 hG) d_M_putBack_9 (px_rd_of (by first | exact R.o | exact R _ (by decide) | assumption)) rfl ?_
      refine pg_iload_n X d_M_putBack_12 rfl ?_
      refine pg_aload_n X d_M_putBack_13 rfl ?_
      refine pg_getf X (f_M_60 hG) d_M_putBack_14 (px_rd_of (by first | exact R.o | exact R _ (by decide) | assumption)) rfl ?_
      refine pg_iconst X (5) d_M_putBack_17 (by decide) ?_
      refine pg_iload_n X d_M_putBack_18 rfl ?_
      refine pg_imul X d_M_putBack_19 ?_
      rw [e5]
      refine pg_ialdN X d_M_putBack_20 (px_rd_of (by first | exact R.o | exact R _ (by decide) | assumption)) (by first | assumption | omega) (by first | assumption | omega) ?_
      refine pm_ist X S (fun _ => rfl) (by decide) d_M_putBack_21 (by first | assumption | omega) (by first | assumption | omega) (fun π1 S => ?_)
      have R := S.1
      refine pg_aload_n X d_M_putBack_22 rfl ?_
      refine pg_getf X (f_M_48 hG) d_M_putBack_23 (px_rd_of (by first | exact R.o | exact R _ (by decide) | assumption)) rfl ?_
      refine pg_iload_n X d_M_putBack_26 rfl ?_
      refine pg_aload_n X d_M_putBack_27 rfl ?_
      refine pg_getf X (f_M_60 hG) d_M_putBack_28 (px_rd_of (by first | exact R.o | exact R _ (by decide) | assumption)) rfl ?_
      refine pg_iconst X (5) d_M_putBack_31 (by decide) ?_
      refine pg_iload_n X d_M_putBack_32 rfl ?_
      refine pg_imul X d_M_putBack_33 ?_
      rw [e5]
      refine pg_iconst X (1) d_M_putBack_34 (by decide) ?_
      refine pg_iadd X d_M_putBack_35 ?_
      rw [p1]
      refine pg_ialdN X d_M_putBack_36 (px_rd_of (by first | exact R.o | exact R _ (by decide) | assumption)) (by first | assumption | omega) (by first | assumption | omega) ?_
      refine pm_ist X S (fun _ => rfl) (by decide) d_M_putBack_37 (by first | assumption | omega) (by first | assumption | omega) (fun π1 S => ?_)
      have R := S.1
      refine pg_aload_n X d_M_putBack_38 rfl ?_
      refine pg_getf X (f_M_51 hG) d_M_putBack_39 (px_rd_of (by first | exact R.o | exact R _ (by decide) | assumption)) rfl ?_
      refine pg_iload_n X d_M_putBack_42 rfl ?_
      refine pg_aload_n X d_M_putBack_43 rfl ?_
      refine pg_getf X (f_M_60 hG) d_M_putBack_44 (px_rd_of (by first | exact R.o | exact R _ (by decide) | assumption)) rfl ?_
      refine pg_iconst X (5) d_M_putBack_47 (by decide) ?_
      refine pg_iload_n X d_M_putBack_48 rfl ?_
      refine pg_imul X d_M_putBack_49 ?_
      rw [e5]
      refine pg_iconst X (2) d_M_putBack_50 (by decide) ?_
      refine pg_iadd X d_M_putBack_51 ?_
      rw [p2]
      refine pg_ialdN X d_M_putBack_52 (px_rd_of (by first | exact R.o | exact R _ (by decide) | assumption)) (by first | assumption | omega) (by first | assumption | omega) ?_
      refine pm_ist X S (fun _ => rfl) (by decide) d_M_putBack_53 (by first | assumption | omega) (by first | assumption | omega) (fun π1 S => ?_)
      have R := S.1
      refine pg_aload_n X d_M_putBack_54 rfl ?_
      refine pg_getf X (f_M_54 hG) d_M_putBack_55 (px_rd_of (by first | exact R.o | exact R _ (by decide) | assumption)) rfl ?_
      refine pg_iload_n X d_M_putBack_58 rfl ?_
      refine pg_aload_n X d_M_putBack_59 rfl ?_
      refine pg_getf X (f_M_60 hG) d_M_putBack_60 (px_rd_of (by first | exact R.o | exact R _ (by decide) | assumption)) rfl ?_
      refine pg_iconst X (5) d_M_putBack_63 (by decide) ?_
      refine pg_iload_n X d_M_putBack_64 rfl ?_
      refine pg_imul X d_M_putBack_65 ?_
      rw [e5]
      refine pg_iconst X (3) d_M_putBack_66 (by decide) ?_
      refine pg_iadd X d_M_putBack_67 ?_
      rw [p3]
      refine pg_ialdN X d_M_putBack_68 (px_rd_of (by first | exact R.o | exact R _ (by decide) | assumption)) (by first | assumption | omega) (by first | assumption | omega) ?_
      refine pm_ist X S (fun _ => rfl) (by decide) d_M_putBack_69 (by first | assumption | omega) (by first | assumption | omega) (fun π1 S => ?_)
      have R := S.1
      refine pg_aload_n X d_M_putBack_70 rfl ?_
      refine pg_getf X (f_M_57 hG) d_M_putBack_71 (px_rd_of (by first | exact R.o | exact R _ (by decide) | assumption)) rfl ?_
      refine pg_iload_n X d_M_putBack_74 rfl ?_
      refine pg_aload_n X d_M_putBack_75 rfl ?_
      refine pg_getf X (f_M_60 hG) d_M_putBack_76 (px_rd_of (by first | exact R.o | exact R _ (by decide) | assumption)) rfl ?_
      refine pg_iconst X (5) d_M_putBack_79 (by decide) ?_
      refine pg_iload_n X d_M_putBack_80 rfl ?_
      refine pg_imul X d_M_putBack_81 ?_
      rw [e5]
      refine pg_iconst X (4) d_M_putBack_82 (by decide) ?_
      refine pg_iadd X d_M_putBack_83 ?_
      rw [p4]
      refine pg_ialdN X d_M_putBack_84 (px_rd_of (by first | exact R.o | exact R _ (by decide) | assumption)) (by first | assumption | omega) (by first | assumption | omega) ?_
      refine pm_ist X S (fun _ => rfl) (by decide) d_M_putBack_85 (by first | assumption | omega) (by first | assumption | omega) (fun π1 S => ?_)
      have R := S.1
      refine pg_iinc1 X d_M_putBack_86 ?_
      refine pg_goto X d_M_putBack_89 ?_
      rw [nI_i1]
      refine ih (i + 1) _ _ (by omega) ⟨fun r hr => ?_, fun v hv => ?_, fun c hc => absurd hc (Nat.not_lt_zero c), fun e he => absurd he (Nat.not_lt_zero e)⟩ S
      · rw [up2_r (by omega), up2_r (by omega), up2_r (by omega), up2_r (by omega), up2_r (by omega)]
        exact P1 r hr
      · have e15 := P1 15 (by decide)
        by_cases q : v = i
        · subst q
          simp [up2, e15]
        · have := P2 v (by omega)
          simp [up2, q, this]
  refine pg_iconst X (0) d_M_putBack_0 (by decide) ?_
  refine pg_istore1 X d_M_putBack_1 ?_
  exact one 16 0 μ π rfl ⟨fun _ _ => rfl, fun v hv => absurd hv (Nat.not_lt_zero v), fun v hv => absurd hv (Nat.not_lt_zero v), fun v hv => absurd hv (Nat.not_lt_zero v)⟩ S
end MPB
