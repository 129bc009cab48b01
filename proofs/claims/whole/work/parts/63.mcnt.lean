/-! THE MODEL: count, far -/
section MCN
variable {l : Launch} {G : px_Cg} {π π0 : px_H} {K : Option Value ⊕ String → px_H → Prop} {zm n nt nd wd ht tl : Nat} {μ h w : Nat → Nat → Int32} {x y a : Int32}
noncomputable def coM (μ : Nat → Nat → Int32) (tl : Nat) (a : Int32) : Int32 := if a = 0 then μ 0 9 else if a = 1 then μ 0 4 else if a = 2 then μ 0 5 else if a = 3 then μ 0 8 else if a = 4 then nI (cn (fun v => μ 10 v = 1) tl) else nI (cn (fun v => μ 10 v = 0 ∧ μ 7 v < μ 0 9) tl)
theorem t_M_count (A : GA G) (S : SM zm μ π0 π) (h8 : μ 0 8 = nI tl) (htl : tl ≤ 16) (k1 : 0 ≤ a → a ≤ 5 → ∀ π1, SM zm (up2 μ 0 0 0) π0 π1 → K (.inl (some (.int (coM μ tl a)))) π1) (k0 : ¬ (0 ≤ a ∧ a ≤ 5) → ∀ π1, SM zm (up2 μ 0 0 1) π0 π1 → K (.inl (some (.int 0))) π1) :
    px_P l G y_M_count b_M_count 4 (some .int) (px_rm 1 23) true [.ref zm, .int a] π K := by
  have hG := A.1
  have hZ := A.2.1
  refine px_P.intro (by decide) hZ (by simp [Value.category]) (Nat.le_of_ble_eq_true rfl) rfl ?_
  intro Γ hl hR X Y hnm hs hbel
  subst hl
  refine pg_w ?_
  have R := S.1
  refine pg_aload_n X d_M_count_0 rfl ?_
  refine pg_iload_n X d_M_count_1 rfl ?_
  refine pg_iconst X (0) d_M_count_2 (by decide) ?_
  refine pg_iconst X (5) d_M_count_3 (by decide) ?_
  refine pc_S (As := [_, _, _]) X Y d_M_count_4 (c_M_94 hG) (s_M_within hG) rfl rfl (Nat.le_of_ble_eq_true rfl) (by rw [hR]; exact ⟨by decide, by decide⟩) (by decide) (by decide) (by rw [hR]; first | decide | (dsimp only [px_rm]; omega)) (by rw [hR]; first | decide | (dsimp only [px_rm]; omega)) (t_M_within A (fun q1 => ?_) (fun q1 => ?_))
  · refine pg_iconst X (1) d_M_count_7 (by decide) ?_
    refine pg_iconst X (1) d_M_count_8 (by decide) ?_
    refine pc_V (ci := 4) (As := [_, _, _]) X Y d_M_count_9 (c_M_105 hG) (i_M_goes hG) (v_M_goes hG) (fun r h => by rw [hG.2] at h; cases h; rfl) rfl rfl (Nat.le_of_ble_eq_true rfl) (by rw [hR]; exact ⟨by decide, by decide⟩) (by decide) (by decide) (by rw [hR]; first | decide | (dsimp only [px_rm]; omega)) (by rw [hR]; first | decide | (dsimp only [px_rm]; omega)) (px_rd_of (by first | exact R.o | assumption)) (t_M_goes A S (fun _ π1 S => ?_) (fun q2 => absurd ⟨by decide, by decide, by decide⟩ q2))
    have kx := k1 q1.1 q1.2
    refine pg_if_ne X d_M_count_12 (fun c3 => ?_) (fun c3 => ?_)
    · have R := S.1
      have f8 : up2 μ 0 0 0 0 8 = nI tl := by rw [up2_n (by decide)]; exact h8
      have f9 : up2 μ 0 0 0 0 9 = μ 0 9 := up2_n (by decide)
      have g7 : up2 μ 0 0 0 7 = μ 7 := up2_r (by decide)
      have g10 : up2 μ 0 0 0 10 = μ 10 := up2_r (by decide)
      have fin : ∀ x3, px_G Γ G (px_Q Γ G true K) true 0 0 65 [some (.ref zm), some (.int a), some (.int (nI (cn (fun v => μ 10 v = 0 ∧ μ 7 v < μ 0 9) tl))), x3] [] π1 := by
        intro x3
        unfold coM at kx
        refine pg_iload_n X d_M_count_65 rfl ?_
        by_cases a0 : a = 0
        · rw [if_pos a0] at kx
          subst a0
          refine pg_tin X d_M_count_66 (by decide) (by decide) rfl (tgt := 100) rfl ?_
          refine pg_aload_n X d_M_count_100 rfl ?_
          refine pg_getf X (f_M_119 hG) d_M_count_101 (px_rd_of (by first | exact R.o | exact R _ (by decide) | assumption)) rfl ?_
          rw [f9]
          exact pg_iret X Y d_M_count_104 rfl (by decide) (Nat.zero_le _) (Nat.zero_le _) (kx _ S)
        rw [if_neg a0] at kx
        by_cases a1 : a = 1
        · rw [if_pos a1] at kx
          subst a1
          refine pg_tin X d_M_count_66 (by decide) (by decide) rfl (tgt := 105) rfl ?_
          have f : up2 μ 0 0 0 0 4 = μ 0 4 := up2_n (by decide)
          refine pg_aload_n X d_M_count_105 rfl ?_
          refine pg_getf X (f_M_113 hG) d_M_count_106 (px_rd_of (by first | exact R.o | exact R _ (by decide) | assumption)) rfl ?_
          rw [f]
          exact pg_iret X Y d_M_count_109 rfl (by decide) (Nat.zero_le _) (Nat.zero_le _) (kx _ S)
        rw [if_neg a1] at kx
        by_cases a2 : a = 2
        · rw [if_pos a2] at kx
          subst a2
          refine pg_tin X d_M_count_66 (by decide) (by decide) rfl (tgt := 110) rfl ?_
          have f : up2 μ 0 0 0 0 5 = μ 0 5 := up2_n (by decide)
          refine pg_aload_n X d_M_count_110 rfl ?_
          refine pg_getf X (f_M_116 hG) d_M_count_111 (px_rd_of (by first | exact R.o | exact R _ (by decide) | assumption)) rfl ?_
          rw [f]
          exact pg_iret X Y d_M_count_114 rfl (by decide) (Nat.zero_le _) (Nat.zero_le _) (kx _ S)
        rw [if_neg a2] at kx
        by_cases a3 : a = 3
        · rw [if_pos a3] at kx
          subst a3
          refine pg_tin X d_M_count_66 (by decide) (by decide) rfl (tgt := 115) rfl ?_
          have f : up2 μ 0 0 0 0 8 = μ 0 8 := up2_n (by decide)
          refine pg_aload_n X d_M_count_115 rfl ?_
          refine pg_getf X (f_M_98 hG) d_M_count_116 (px_rd_of (by first | exact R.o | exact R _ (by decide) | assumption)) rfl ?_
          rw [f]
          exact pg_iret X Y d_M_count_119 rfl (by decide) (Nat.zero_le _) (Nat.zero_le _) (kx _ S)
        rw [if_neg a3] at kx
        by_cases a4 : a = 4
        · rw [if_pos a4] at kx
          subst a4
          refine pg_tin X d_M_count_66 (by decide) (by decide) rfl (tgt := 120) rfl ?_
          refine pg_aload_n X d_M_count_120 rfl ?_
          refine pc_V (ci := 4) (As := []) X Y d_M_count_121 (c_M_169 hG) (i_M_inside hG) (v_M_inside hG) (fun r h => by rw [hG.2] at h; cases h; rfl) rfl rfl (Nat.le_of_ble_eq_true rfl) (by rw [hR]; exact ⟨by decide, by decide⟩) (by decide) (by decide) (by rw [hR]; first | decide | (dsimp only [px_rm]; omega)) (by rw [hR]; first | decide | (dsimp only [px_rm]; omega)) (px_rd_of (by first | exact R.o | assumption)) (t_M_inside A R f8 htl ?_)
          exact pg_iret X Y d_M_count_124 rfl (by decide) (Nat.zero_le _) (Nat.zero_le _) (kx _ S)
        rw [if_neg a4] at kx
        have hout : a.toInt < 0 ∨ 4 < a.toInt := by
          have n0 := lv_neT a0 (a := 0) rfl
          have n1 := lv_neT a1 (a := 1) rfl
          have n2 := lv_neT a2 (a := 2) rfl
          have n3 := lv_neT a3 (a := 3) rfl
          have n4 := lv_neT a4 (a := 4) rfl
          omega
        refine pg_tout X d_M_count_66 hout (tgt := 125) rfl ?_
        refine pg_iload_n X d_M_count_125 rfl ?_
        exact pg_iret X Y d_M_count_126 rfl (by decide) (Nat.zero_le _) (Nat.zero_le _) (kx _ S)
      have loop : ∀ r i, i + r = tl → px_G Γ G (px_Q Γ G true K) true 0 0 21 [some (.ref zm), some (.int a), some (.int (nI (cn (fun v => μ 10 v = 0 ∧ μ 7 v < μ 0 9) i))), some (.int (nI i))] [] π1 := by
        intro r
        induction r with
        | zero =>
          intro i hi
          have ei : i = tl := by omega
          subst ei
          refine pg_iload_n X d_M_count_21 rfl ?_
          refine pg_aload_n X d_M_count_22 rfl ?_
          refine pg_getf X (f_M_98 hG) d_M_count_23 (px_rd_of (by first | exact R.o | exact R _ (by decide) | assumption)) rfl ?_
          rw [f8]
          refine pg_icmp_ge X d_M_count_26 (fun c1 => ?_) (fun c1 => ?_)
          · exact fin _
          · simp (disch := omega) only [Int32.lt_iff_toInt_lt, Int32.le_iff_toInt_le, nI_toInt, px_l0, px_l1, px_l2, px_l3, px_l4, px_l5, px_l6, px_l10, px_l11, px_l12, px_l16, px_l30, px_l100, px_l400] at c1
            omega
        | succ r ih =>
          intro i hi
          have go : ∀ b, b = nI (cn (fun v => μ 10 v = 0 ∧ μ 7 v < μ 0 9) (i + 1)) → px_G Γ G (px_Q Γ G true K) true 0 0 58 [some (.ref zm), some (.int a), some (.int (nI (cn (fun v => μ 10 v = 0 ∧ μ 7 v < μ 0 9) i))), some (.int (nI i))] [.int b] π1 := by
            intro b hb
            refine pg_istore2 X d_M_count_58 ?_
            refine pg_iinc3 X d_M_count_59 ?_
            refine pg_goto X d_M_count_62 ?_
            rw [nI_i1, hb]
            exact ih (i + 1) (by omega)
          refine pg_iload_n X d_M_count_21 rfl ?_
          refine pg_aload_n X d_M_count_22 rfl ?_
          refine pg_getf X (f_M_98 hG) d_M_count_23 (px_rd_of (by first | exact R.o | exact R _ (by decide) | assumption)) rfl ?_
          rw [f8]
          refine pg_icmp_ge X d_M_count_26 (fun c1 => ?_) (fun c1 => ?_)
          · simp (disch := omega) only [Int32.lt_iff_toInt_lt, Int32.le_iff_toInt_le, nI_toInt, px_l0, px_l1, px_l2, px_l3, px_l4, px_l5, px_l6, px_l10, px_l11, px_l12, px_l16, px_l30, px_l100, px_l400] at c1
            omega
          refine pg_aload_n X d_M_count_29 rfl ?_
          refine pg_getf X (f_M_45 hG) d_M_count_30 (px_rd_of (by first | exact R.o | exact R _ (by decide) | assumption)) rfl ?_
          refine pg_iload_n X d_M_count_33 rfl ?_
          refine pg_ialdN X d_M_count_34 (px_rd_of (by first | exact R.o | exact R _ (by decide) | assumption)) (by first | assumption | omega) (by first | assumption | omega) ?_
          rw [g10]
          refine pg_if_ne X d_M_count_35 (fun c2 => ?_) (fun c2 => ?_)
          · refine pg_iload_n X d_M_count_57 rfl ?_
            exact go _ (by rw [cn, px_if, if_neg (fun q => c2 q.1), Nat.add_zero])
          refine pg_aload_n X d_M_count_38 rfl ?_
          refine pg_getf X (f_M_36 hG) d_M_count_39 (px_rd_of (by first | exact R.o | exact R _ (by decide) | assumption)) rfl ?_
          refine pg_iload_n X d_M_count_42 rfl ?_
          refine pg_ialdN X d_M_count_43 (px_rd_of (by first | exact R.o | exact R _ (by decide) | assumption)) (by first | assumption | omega) (by first | assumption | omega) ?_
          refine pg_aload_n X d_M_count_44 rfl ?_
          refine pg_getf X (f_M_119 hG) d_M_count_45 (px_rd_of (by first | exact R.o | exact R _ (by decide) | assumption)) rfl ?_
          rw [g7, f9]
          refine pg_icmp_ge X d_M_count_48 (fun c4 => ?_) (fun c4 => ?_)
          · refine pg_iload_n X d_M_count_57 rfl ?_
            exact go _ (by rw [cn, px_if, if_neg (fun q => k2_nlt c4 q.2), Nat.add_zero])
          refine pg_iload_n X d_M_count_51 rfl ?_
          refine pg_iconst X (1) d_M_count_52 (by decide) ?_
          refine pg_iadd X d_M_count_53 ?_
          refine pg_goto X d_M_count_54 ?_
          exact go _ (by rw [cn, px_if, if_pos ⟨c2, k2_lt c4⟩]; exact nI_1 _)
      refine pg_iconst X (0) d_M_count_17 (by decide) ?_
      refine pg_istore2 X d_M_count_18 ?_
      refine pg_iconst X (0) d_M_count_19 (by decide) ?_
      refine pg_istore3 X d_M_count_20 ?_
      exact loop tl 0 (by omega)
    · exact absurd c3 (by decide)
  · refine pg_iconst X (1) d_M_count_7 (by decide) ?_
    refine pg_iconst X (1) d_M_count_8 (by decide) ?_
    refine pc_V (ci := 4) (As := [_, _, _]) X Y d_M_count_9 (c_M_105 hG) (i_M_goes hG) (v_M_goes hG) (fun r h => by rw [hG.2] at h; cases h; rfl) rfl rfl (Nat.le_of_ble_eq_true rfl) (by rw [hR]; exact ⟨by decide, by decide⟩) (by decide) (by decide) (by rw [hR]; first | decide | (dsimp only [px_rm]; omega)) (by rw [hR]; first | decide | (dsimp only [px_rm]; omega)) (px_rd_of (by first | exact R.o | assumption)) (t_M_goes A S (fun q2 => absurd rfl q2.1) (fun q2 π1 S1 => ?_))
    refine pg_if_ne X d_M_count_12 (fun c3 => ?_) (fun c3 => ?_)
    · exact absurd rfl c3
    refine pg_iconst X (0) d_M_count_15 (by decide) ?_
    exact pg_iret X Y d_M_count_16 rfl (by decide) (Nat.zero_le _) (Nat.zero_le _) (k0 q1 _ S1)
end MCN
