/-! THE MODEL: arrives, wall -/
section MP4
variable {l : Launch} {G : px_Cg} {π π0 : px_H} {K : Option Value ⊕ String → px_H → Prop} {zm n nt nd wd ht tl : Nat} {μ h w : Nat → Nat → Int32} {x y s v g : Int32}
theorem t_M_arrives (A : GA G) (S : SM zm μ π0 π) (h5 : μ 0 5 = nI nd) (hnd : nd ≤ 4) (h8 : μ 0 8 = nI tl) (htl : tl ≤ 16)
    (k1 : ∀ d, d < nd → x = nI d → (μ 0 9 ≤ s ∧ s ≤ 400) ∧ 0 ≤ g ∧ g ≤ 3 → tl < 16 → ∀ π1, SM zm (up2 (up2 (up2 (up2 (up2 μ 0 0 0) 7 tl s) 8 tl (nI d)) 9 tl g) 0 8 (nI (tl + 1))) π0 π1 → K (.inl (some (.int (nI tl)))) π1)
    (k0 : (¬ ∃ d, d < nd ∧ x = nI d) → ∀ π1, SM zm (up2 μ 0 0 1) π0 π1 → K (.inl (some (.int 0))) π1) (k02 : (∃ d, d < nd ∧ x = nI d) → ¬ ((μ 0 9 ≤ s ∧ s ≤ 400) ∧ 0 ≤ g ∧ g ≤ 3) → ∀ π1, SM zm (up2 μ 0 0 2) π0 π1 → K (.inl (some (.int 0))) π1) (k03 : (∃ d, d < nd ∧ x = nI d) → ((μ 0 9 ≤ s ∧ s ≤ 400) ∧ 0 ≤ g ∧ g ≤ 3) → ¬ tl < 16 → ∀ π1, SM zm (up2 μ 0 0 3) π0 π1 → K (.inl (some (.int 0))) π1) :
    px_P l G y_M_arrives b_M_arrives 4 (some .int) (px_rm 1 23) true [.ref zm, .int s, .int x, .int g] π K := by
  have hG := A.1
  have hZ := A.2.1
  refine px_P.intro (by decide) hZ (by simp [Value.category]) (Nat.le_of_ble_eq_true rfl) rfl ?_
  intro Γ hl hR X Y hnm hs hbel
  subst hl
  refine pg_w ?_
  have R := S.1
  have last : ∀ p r, ((p = 0 ∧ ¬ ∃ d, d < nd ∧ x = nI d) ∨ (p = 1 ∧ ∃ d, d < nd ∧ x = nI d)) → ((r = 0 ∧ ¬ ((μ 0 9 ≤ s ∧ s ≤ 400) ∧ 0 ≤ g ∧ g ≤ 3)) ∨ (r = 1 ∧ (μ 0 9 ≤ s ∧ s ≤ 400) ∧ 0 ≤ g ∧ g ≤ 3)) → px_G Γ G (px_Q Γ G true K) true 0 0 40 [some (.ref zm), some (.int s), some (.int x), some (.int g)] [.int r, .int p, .ref zm] π := by
    intro p r hp hr
    have goes : ∀ q, ((q = 0 ∧ ¬ tl < 16) ∨ (q = 1 ∧ tl < 16)) → px_G Γ G (px_Q Γ G true K) true 0 0 54 [some (.ref zm), some (.int s), some (.int x), some (.int g)] [.int q, .int r, .int p, .ref zm] π := by
      intro q hq
      rcases hp with ⟨ep, hp⟩ | ⟨ep, hp⟩
      · subst ep
        refine pc_V (ci := 4) (As := [_, _, _]) X Y d_M_arrives_54 (c_M_105 hG) (i_M_goes hG) (v_M_goes hG) (fun r h => by rw [hG.2] at h; cases h; rfl) rfl rfl (Nat.le_of_ble_eq_true rfl) (by rw [hR]; exact ⟨by decide, by decide⟩) (by decide) (by decide) (by rw [hR]; first | decide | (dsimp only [px_rm]; omega)) (by rw [hR]; first | decide | (dsimp only [px_rm]; omega)) (px_rd_of (by first | exact R.o | assumption)) (t_M_goes A S (fun q2 => absurd rfl q2.1) (fun q2 π1 S1 => ?_))
        refine pg_if_ne X d_M_arrives_57 (fun c3 => ?_) (fun c3 => ?_)
        · exact absurd rfl c3
        refine pg_iconst X (0) d_M_arrives_60 (by decide) ?_
        exact pg_iret X Y d_M_arrives_61 rfl (by decide) (Nat.zero_le _) (Nat.zero_le _) (k0 hp _ S1)
      rcases hr with ⟨er, hr⟩ | ⟨er, hr⟩
      · subst ep
        subst er
        refine pc_V (ci := 4) (As := [_, _, _]) X Y d_M_arrives_54 (c_M_105 hG) (i_M_goes hG) (v_M_goes hG) (fun r h => by rw [hG.2] at h; cases h; rfl) rfl rfl (Nat.le_of_ble_eq_true rfl) (by rw [hR]; exact ⟨by decide, by decide⟩) (by decide) (by decide) (by rw [hR]; first | decide | (dsimp only [px_rm]; omega)) (by rw [hR]; first | decide | (dsimp only [px_rm]; omega)) (px_rd_of (by first | exact R.o | assumption)) (t_M_goes A S (fun q2 => absurd rfl q2.2.1) (fun q2 π1 S1 => ?_))
        refine pg_if_ne X d_M_arrives_57 (fun c3 => ?_) (fun c3 => ?_)
        · exact absurd rfl c3
        refine pg_iconst X (0) d_M_arrives_60 (by decide) ?_
        exact pg_iret X Y d_M_arrives_61 rfl (by decide) (Nat.zero_le _) (Nat.zero_le _) (k02 hp hr _ S1)
      rcases hq with ⟨eq, hq⟩ | ⟨eq, hq⟩
      · subst ep
        subst er
        subst eq
        refine pc_V (ci := 4) (As := [_, _, _]) X Y d_M_arrives_54 (c_M_105 hG) (i_M_goes hG) (v_M_goes hG) (fun r h => by rw [hG.2] at h; cases h; rfl) rfl rfl (Nat.le_of_ble_eq_true rfl) (by rw [hR]; exact ⟨by decide, by decide⟩) (by decide) (by decide) (by rw [hR]; first | decide | (dsimp only [px_rm]; omega)) (by rw [hR]; first | decide | (dsimp only [px_rm]; omega)) (px_rd_of (by first | exact R.o | assumption)) (t_M_goes A S (fun q2 => absurd rfl q2.2.2) (fun q2 π1 S1 => ?_))
        refine pg_if_ne X d_M_arrives_57 (fun c3 => ?_) (fun c3 => ?_)
        · exact absurd rfl c3
        refine pg_iconst X (0) d_M_arrives_60 (by decide) ?_
        exact pg_iret X Y d_M_arrives_61 rfl (by decide) (Nat.zero_le _) (Nat.zero_le _) (k03 hp hr hq _ S1)
      subst ep
      subst er
      subst eq
      refine pc_V (ci := 4) (As := [_, _, _]) X Y d_M_arrives_54 (c_M_105 hG) (i_M_goes hG) (v_M_goes hG) (fun r h => by rw [hG.2] at h; cases h; rfl) rfl rfl (Nat.le_of_ble_eq_true rfl) (by rw [hR]; exact ⟨by decide, by decide⟩) (by decide) (by decide) (by rw [hR]; first | decide | (dsimp only [px_rm]; omega)) (by rw [hR]; first | decide | (dsimp only [px_rm]; omega)) (px_rd_of (by first | exact R.o | assumption)) (t_M_goes A S (fun _ π1 S => ?_) (fun q2 => absurd ⟨by decide, by decide, by decide⟩ q2))
      obtain ⟨d, hd, ed⟩ := hp
      have k1 := k1 d hd ed hr hq
      refine pg_if_ne X d_M_arrives_57 (fun c3 => ?_) (fun c3 => ?_)
      · have R := S.1
        rw [ed]
        have e8 : up2 μ 0 0 0 0 8 = nI tl := by rw [up2_n (by decide)]; exact h8
        refine pg_aload_n X d_M_arrives_62 rfl ?_
        refine pg_getf X (f_M_36 hG) d_M_arrives_63 (px_rd_of (by first | exact R.o | exact R _ (by decide) | assumption)) rfl ?_
        refine pg_aload_n X d_M_arrives_66 rfl ?_
        refine pg_getf X (f_M_98 hG) d_M_arrives_67 (px_rd_of (by first | exact R.o | exact R _ (by decide) | assumption)) rfl ?_
        rw [e8]
        refine pg_iload_n X d_M_arrives_70 rfl ?_
        refine pm_ist X S (fun _ => rfl) (by decide) d_M_arrives_71 (by first | assumption | omega) (by first | assumption | omega) (fun π1 S => ?_)
        have R := S.1
        refine pg_aload_n X d_M_arrives_72 rfl ?_
        refine pg_getf X (f_M_39 hG) d_M_arrives_73 (px_rd_of (by first | exact R.o | exact R _ (by decide) | assumption)) rfl ?_
        refine pg_aload_n X d_M_arrives_76 rfl ?_
        refine pg_getf X (f_M_98 hG) d_M_arrives_77 (px_rd_of (by first | exact R.o | exact R _ (by decide) | assumption)) rfl ?_
        have f1 : up2 (up2 μ 0 0 0) 7 tl s 0 8 = nI tl := by rw [up2_r (by decide)]; exact e8
        rw [f1]
        refine pg_iload_n X d_M_arrives_80 rfl ?_
        refine pm_ist X S (fun _ => rfl) (by decide) d_M_arrives_81 (by first | assumption | omega) (by first | assumption | omega) (fun π1 S => ?_)
        have R := S.1
        refine pg_aload_n X d_M_arrives_82 rfl ?_
        refine pg_getf X (f_M_42 hG) d_M_arrives_83 (px_rd_of (by first | exact R.o | exact R _ (by decide) | assumption)) rfl ?_
        refine pg_aload_n X d_M_arrives_86 rfl ?_
        refine pg_getf X (f_M_98 hG) d_M_arrives_87 (px_rd_of (by first | exact R.o | exact R _ (by decide) | assumption)) rfl ?_
        have f2 : up2 (up2 (up2 μ 0 0 0) 7 tl s) 8 tl (nI d) 0 8 = nI tl := by rw [up2_r (by decide)]; exact f1
        rw [f2]
        refine pg_iload_n X d_M_arrives_90 rfl ?_
        refine pm_ist X S (fun _ => rfl) (by decide) d_M_arrives_91 (by first | assumption | omega) (by first | assumption | omega) (fun π1 S => ?_)
        have R := S.1
        refine pg_aload_n X d_M_arrives_92 rfl ?_
        refine pg_dup X d_M_arrives_93 rfl ?_
        refine pg_getf X (f_M_98 hG) d_M_arrives_94 (px_rd_of (by first | exact R.o | exact R _ (by decide) | assumption)) rfl ?_
        refine pg_iconst X (1) d_M_arrives_97 (by decide) ?_
        refine pg_iadd X d_M_arrives_98 ?_
        have f3 : up2 (up2 (up2 (up2 μ 0 0 0) 7 tl s) 8 tl (nI d)) 9 tl g 0 8 + 1 = nI (tl + 1) := by
          rw [up2_r (by decide), f2]
          exact nI_1 tl
        rw [f3]
        refine pm_put X S (j := 8) (p := 14) (f_M_98 hG) (ct_M hG) (nf_M_visitors hG) rfl (fun _ => rfl) rfl d_M_arrives_99 (fun π1 S => ?_)
        have R := S.1
        refine pg_aload_n X d_M_arrives_102 rfl ?_
        refine pg_getf X (f_M_98 hG) d_M_arrives_103 (px_rd_of (by first | exact R.o | exact R _ (by decide) | assumption)) rfl ?_
        refine pg_iconst X (1) d_M_arrives_106 (by decide) ?_
        refine pg_isub X d_M_arrives_107 ?_
        rw [up2_s, nI_m1]
        exact pg_iret X Y d_M_arrives_108 rfl (by decide) (Nat.zero_le _) (Nat.zero_le _) (k1 _ S)
      · exact absurd c3 (by decide)
    refine pg_aload_n X d_M_arrives_40 rfl ?_
    refine pg_getf X (f_M_98 hG) d_M_arrives_41 (px_rd_of (by first | exact R.o | exact R _ (by decide) | assumption)) rfl ?_
    refine pg_bipush X (16) d_M_arrives_44 (by decide) ?_
    rw [h8]
    refine pg_icmp_ge X d_M_arrives_46 (fun c1 => ?_) (fun c1 => ?_)
    · simp (disch := omega) only [Int32.lt_iff_toInt_lt, Int32.le_iff_toInt_le, nI_toInt, px_l0, px_l1, px_l2, px_l3, px_l4, px_l5, px_l6, px_l10, px_l11, px_l12, px_l16, px_l30, px_l100, px_l400] at c1
      refine pg_iconst X (0) d_M_arrives_53 (by decide) ?_
      exact goes 0 (Or.inl ⟨rfl, by omega⟩)
    · simp (disch := omega) only [Int32.lt_iff_toInt_lt, Int32.le_iff_toInt_le, nI_toInt, px_l0, px_l1, px_l2, px_l3, px_l4, px_l5, px_l6, px_l10, px_l11, px_l12, px_l16, px_l30, px_l100, px_l400] at c1
      refine pg_iconst X (1) d_M_arrives_49 (by decide) ?_
      refine pg_goto X d_M_arrives_50 ?_
      exact goes 1 (Or.inr ⟨rfl, by omega⟩)
  have mid : ∀ p, ((p = 0 ∧ ¬ ∃ d, d < nd ∧ x = nI d) ∨ (p = 1 ∧ ∃ d, d < nd ∧ x = nI d)) → px_G Γ G (px_Q Γ G true K) true 0 0 12 [some (.ref zm), some (.int s), some (.int x), some (.int g)] [.int p, .ref zm] π := by
    intro p hp
    have no : ¬ ((μ 0 9 ≤ s ∧ s ≤ 400) ∧ 0 ≤ g ∧ g ≤ 3) → px_G Γ G (px_Q Γ G true K) true 0 0 39 [some (.ref zm), some (.int s), some (.int x), some (.int g)] [.int p, .ref zm] π := by
      intro q
      refine pg_iconst X (0) d_M_arrives_39 (by decide) ?_
      exact last p 0 hp (Or.inl ⟨rfl, q⟩)
    refine pg_iload_n X d_M_arrives_12 rfl ?_
    refine pg_aload_n X d_M_arrives_13 rfl ?_
    refine pg_getf X (f_M_119 hG) d_M_arrives_14 (px_rd_of (by first | exact R.o | exact R _ (by decide) | assumption)) rfl ?_
    refine pg_sipush X (400) d_M_arrives_17 (by decide) ?_
    refine pc_S (As := [_, _, _]) X Y d_M_arrives_20 (c_M_94 hG) (s_M_within hG) rfl rfl (Nat.le_of_ble_eq_true rfl) (by rw [hR]; exact ⟨by decide, by decide⟩) (by decide) (by decide) (by rw [hR]; first | decide | (dsimp only [px_rm]; omega)) (by rw [hR]; first | decide | (dsimp only [px_rm]; omega)) (t_M_within A (fun q1 => ?_) (fun q1 => ?_))
    · refine pg_if_eq X d_M_arrives_23 (fun c1 => ?_) (fun c1 => ?_)
      · exact absurd c1 (by decide)
      refine pg_iload_n X d_M_arrives_26 rfl ?_
      refine pg_iconst X (0) d_M_arrives_27 (by decide) ?_
      refine pg_iconst X (3) d_M_arrives_28 (by decide) ?_
      refine pc_S (As := [_, _, _]) X Y d_M_arrives_29 (c_M_94 hG) (s_M_within hG) rfl rfl (Nat.le_of_ble_eq_true rfl) (by rw [hR]; exact ⟨by decide, by decide⟩) (by decide) (by decide) (by rw [hR]; first | decide | (dsimp only [px_rm]; omega)) (by rw [hR]; first | decide | (dsimp only [px_rm]; omega)) (t_M_within A (fun q2 => ?_) (fun q2 => ?_))
      · refine pg_if_eq X d_M_arrives_32 (fun c2 => ?_) (fun c2 => ?_)
        · exact absurd c2 (by decide)
        refine pg_iconst X (1) d_M_arrives_35 (by decide) ?_
        refine pg_goto X d_M_arrives_36 ?_
        exact last p 1 hp (Or.inr ⟨rfl, q1, q2⟩)
      · refine pg_if_eq X d_M_arrives_32 (fun c2 => ?_) (fun c2 => ?_)
        · exact no (fun q => q2 q.2)
        · exact absurd rfl c2
    · refine pg_if_eq X d_M_arrives_23 (fun c1 => ?_) (fun c1 => ?_)
      · exact no (fun q => q1 q.1)
      · exact absurd rfl c1
  refine pg_aload_n X d_M_arrives_0 rfl ?_
  refine pg_iload_n X d_M_arrives_1 rfl ?_
  refine pg_iconst X (0) d_M_arrives_2 (by decide) ?_
  refine pg_aload_n X d_M_arrives_3 rfl ?_
  refine pg_getf X (f_M_116 hG) d_M_arrives_4 (px_rd_of (by first | exact R.o | exact R _ (by decide) | assumption)) rfl ?_
  refine pg_iconst X (1) d_M_arrives_7 (by decide) ?_
  refine pg_isub X d_M_arrives_8 ?_
  rw [h5]
  refine pc_S (As := [_, _, _]) X Y d_M_arrives_9 (c_M_94 hG) (s_M_within hG) rfl rfl (Nat.le_of_ble_eq_true rfl) (by rw [hR]; exact ⟨by decide, by decide⟩) (by decide) (by decide) (by rw [hR]; first | decide | (dsimp only [px_rm]; omega)) (by rw [hR]; first | decide | (dsimp only [px_rm]; omega)) (t_M_within A (fun q1 => ?_) (fun q1 => ?_))
  · exact mid 1 (Or.inr ⟨rfl, (in_rng (by omega)).mp q1⟩)
  · exact mid 0 (Or.inl ⟨rfl, fun q => q1 ((in_rng (by omega)).mpr q)⟩)
/-- is the cell c taken, in the model's cells -/
def tkM (μ : Nat → Nat → Int32) (nt nd tl c : Nat) : Prop := 0 < cn (fun z => μ 10 z = 1 ∧ μ 11 z = nI c) tl ∨ (∃ t, t < nt ∧ μ 2 t = nI c) ∨ ∃ d, d < nd ∧ μ 6 d = nI c
theorem t_M_wall (A : GA G) (S : SM zm μ π0 π) (h1 : μ 0 1 = nI wd) (h2 : μ 0 2 = nI ht) (hw : wd ≤ 12) (hh : ht ≤ 12) (h4 : μ 0 4 = nI nt) (hnt : nt ≤ 6) (h5 : μ 0 5 = nI nd) (hnd : nd ≤ 4) (h8 : μ 0 8 = nI tl) (htl : tl ≤ 16) (hv : narrow .boolean (.int v) = .int v)
    (k1 : ∀ a c, a < wd → c < ht → x = nI a → y = nI c → (μ 1 (12 * c + a) = v ∨ (¬ v = 0 ∧ tkM μ nt nd tl (12 * c + a))) → ∀ π1, SM zm (up2 μ 0 0 0) π0 π1 → K (.inl (some (.int 0))) π1)
    (k2 : ∀ a c, a < wd → c < ht → x = nI a → y = nI c → ¬ (μ 1 (12 * c + a) = v ∨ (¬ v = 0 ∧ tkM μ nt nd tl (12 * c + a))) → ∀ π1, SM zm (up2 (up2 μ 0 0 0) 1 (12 * c + a) v) π0 π1 → K (.inl (some (.int 1))) π1)
    (k0 : ¬ isXY wd ht x y → ∀ π1, SM zm (up2 μ 0 0 1) π0 π1 → K (.inl (some (.int 0))) π1) :
    px_P l G y_M_wall b_M_wall 7 (some .boolean) (px_rm 2 44) true [.ref zm, .int x, .int y, .int v] π K := by
  have hG := A.1
  have hZ := A.2.1
  refine px_P.intro (by decide) hZ (by simp [Value.category]) (Nat.le_of_ble_eq_true rfl) rfl ?_
  intro Γ hl hR X Y hnm hs hbel
  subst hl
  refine pg_w ?_
  have R := S.1
  refine pg_aload_n X d_M_wall_0 rfl ?_
  refine pg_aload_n X d_M_wall_1 rfl ?_
  refine pg_iload_n X d_M_wall_2 rfl ?_
  refine pg_iload_n X d_M_wall_3 rfl ?_
  refine pc_V (ci := 4) (As := [_, _]) X Y d_M_wall_4 (c_M_101 hG) (i_M_isCell hG) (v_M_isCell hG) (fun r h => by rw [hG.2] at h; cases h; rfl) rfl rfl (Nat.le_of_ble_eq_true rfl) (by rw [hR]; exact ⟨by decide, by decide⟩) (by decide) (by decide) (by rw [hR]; first | decide | (dsimp only [px_rm]; omega)) (by rw [hR]; first | decide | (dsimp only [px_rm]; omega)) (px_rd_of (by first | exact R.o | assumption)) (t_M_isCell A R h1 h2 hw hh (fun q1 => ?_) (fun q1 => ?_))
  · refine pg_iconst X (1) d_M_wall_7 (by decide) ?_
    refine pg_iconst X (1) d_M_wall_8 (by decide) ?_
    refine pc_V (ci := 4) (As := [_, _, _]) X Y d_M_wall_9 (c_M_105 hG) (i_M_goes hG) (v_M_goes hG) (fun r h => by rw [hG.2] at h; cases h; rfl) rfl rfl (Nat.le_of_ble_eq_true rfl) (by rw [hR]; exact ⟨by decide, by decide⟩) (by decide) (by decide) (by rw [hR]; first | decide | (dsimp only [px_rm]; omega)) (by rw [hR]; first | decide | (dsimp only [px_rm]; omega)) (px_rd_of (by first | exact R.o | assumption)) (t_M_goes A S (fun _ π1 S => ?_) (fun q2 => absurd ⟨by decide, by decide, by decide⟩ q2))
    obtain ⟨a, c, ha, hc, ea, eb⟩ := q1
    have k1 := k1 a c ha hc ea eb
    have k2 := k2 a c ha hc ea eb
    have hlt : 12 * c + a < 144 := by omega
    refine pg_if_ne X d_M_wall_12 (fun c3 => ?_) (fun c3 => ?_)
    · have R := S.1
      rw [ea, eb]
      refine pg_bipush X (12) d_M_wall_17 (by decide) ?_
      refine pg_iload_n X d_M_wall_19 rfl ?_
      refine pg_imul X d_M_wall_20 ?_
      refine pg_iload_n X d_M_wall_21 rfl ?_
      refine pg_iadd X d_M_wall_22 ?_
      rw [m_12]
      revert k1 k2 hlt
      generalize 12 * c + a = q
      intro k1 k2 hlt
      have f4 : up2 μ 0 0 0 0 4 = nI nt := by rw [up2_n (by decide)]; exact h4
      have f5 : up2 μ 0 0 0 0 5 = nI nd := by rw [up2_n (by decide)]; exact h5
      have f8 : up2 μ 0 0 0 0 8 = nI tl := by rw [up2_n (by decide)]; exact h8
      have g1 : up2 μ 0 0 0 1 = μ 1 := up2_r (by decide)
      have g2 : up2 μ 0 0 0 2 = μ 2 := up2_r (by decide)
      have g6 : up2 μ 0 0 0 6 = μ 6 := up2_r (by decide)
      have fin : ∀ b x6, ((b = 1 ∧ tkM μ nt nd tl q) ∨ (b = 0 ∧ ¬ tkM μ nt nd tl q)) → px_G Γ G (px_Q Γ G true K) true 0 0 125 [some (.ref zm), some (.int (nI a)), some (.int (nI c)), some (.int v), some (.int (nI q)), some (.int b), x6] [] π1 := by
        intro b x6 hb
        have nay : (μ 1 q = v ∨ (¬ v = 0 ∧ tkM μ nt nd tl q)) → px_G Γ G (px_Q Γ G true K) true 0 0 145 [some (.ref zm), some (.int (nI a)), some (.int (nI c)), some (.int v), some (.int (nI q)), some (.int b), x6] [] π1 := by
          intro q2
          refine pg_iconst X (0) d_M_wall_145 (by decide) ?_
          exact pg_iret X Y d_M_wall_146 rfl (by decide) (Nat.zero_le _) (Nat.zero_le _) (k1 q2 _ S)
        have yes : ¬ (μ 1 q = v ∨ (¬ v = 0 ∧ tkM μ nt nd tl q)) → px_G Γ G (px_Q Γ G true K) true 0 0 147 [some (.ref zm), some (.int (nI a)), some (.int (nI c)), some (.int v), some (.int (nI q)), some (.int b), x6] [] π1 := by
          intro q2
          refine pg_aload_n X d_M_wall_147 rfl ?_
          refine pg_getf X (f_M_7 hG) d_M_wall_148 (px_rd_of (by first | exact R.o | exact R _ (by decide) | assumption)) rfl ?_
          refine pg_iload X d_M_wall_151 rfl ?_
          refine pg_iload_n X d_M_wall_153 rfl ?_
          refine pm_zst X S (fun _ => rfl) (by decide) d_M_wall_154 (by first | assumption | omega) (by first | assumption | omega) (by first | rfl | assumption) (fun π1 S => ?_)
          have R := S.1
          refine pg_iconst X (1) d_M_wall_155 (by decide) ?_
          exact pg_iret X Y d_M_wall_156 rfl (by decide) (Nat.zero_le _) (Nat.zero_le _) (k2 q2 _ S)
        refine pg_aload_n X d_M_wall_125 rfl ?_
        refine pg_getf X (f_M_7 hG) d_M_wall_126 (px_rd_of (by first | exact R.o | exact R _ (by decide) | assumption)) rfl ?_
        refine pg_iload X d_M_wall_129 rfl ?_
        refine pg_zaldN X d_M_wall_131 (px_rd_of (by first | exact R.o | exact R _ (by decide) | assumption)) (by first | assumption | omega) (by first | assumption | omega) ?_
        refine pg_iload_n X d_M_wall_132 rfl ?_
        rw [g1]
        refine pg_icmp_eq X d_M_wall_133 (fun c1 => ?_) (fun c1 => ?_)
        · exact nay (Or.inl c1)
        refine pg_iload_n X d_M_wall_136 rfl ?_
        refine pg_if_eq X d_M_wall_137 (fun c2 => ?_) (fun c2 => ?_)
        · exact yes (fun q2 => q2.elim c1 (fun q2 => q2.1 c2))
        refine pg_iload X d_M_wall_140 rfl ?_
        rcases hb with ⟨e, hb⟩ | ⟨e, hb⟩
        · subst e
          refine pg_if_eq X d_M_wall_142 (fun c4 => ?_) (fun c4 => ?_)
          · exact absurd c4 (by decide)
          · exact nay (Or.inr ⟨c2, hb⟩)
        · subst e
          refine pg_if_eq X d_M_wall_142 (fun c4 => ?_) (fun c4 => ?_)
          · exact yes (fun q2 => q2.elim c1 (fun q2 => hb q2.2))
          · exact absurd rfl c4
      have two : ∀ r i b, i + r = nd → ((b = 1 ∧ tkM μ nt i tl q) ∨ (b = 0 ∧ ¬ tkM μ nt i tl q)) → px_G Γ G (px_Q Γ G true K) true 0 0 86 [some (.ref zm), some (.int (nI a)), some (.int (nI c)), some (.int v), some (.int (nI q)), some (.int b), some (.int (nI i))] [] π1 := by
        intro r
        induction r with
        | zero =>
          intro i b hi hb
          have ei : i = nd := by omega
          subst ei
          refine pg_iload X d_M_wall_86 rfl ?_
          refine pg_aload_n X d_M_wall_88 rfl ?_
          refine pg_getf X (f_M_116 hG) d_M_wall_89 (px_rd_of (by first | exact R.o | exact R _ (by decide) | assumption)) rfl ?_
          rw [f5]
          refine pg_icmp_ge X d_M_wall_92 (fun c1 => ?_) (fun c1 => ?_)
          · exact fin b _ hb
          · simp (disch := omega) only [Int32.lt_iff_toInt_lt, Int32.le_iff_toInt_le, nI_toInt, px_l0, px_l1, px_l2, px_l3, px_l4, px_l5, px_l6, px_l10, px_l11, px_l12, px_l16, px_l30, px_l100, px_l400] at c1
            omega
        | succ r ih =>
          intro i b hi hb
          have step : tkM μ nt (i + 1) tl q ↔ tkM μ nt i tl q ∨ μ 6 i = nI q := by
            unfold tkM
            constructor
            · rintro (q1 | q1 | ⟨d, d1, d2⟩)
              · exact Or.inl (Or.inl q1)
              · exact Or.inl (Or.inr (Or.inl q1))
              · by_cases e : d = i
                · rw [e] at d2
                  exact Or.inr d2
                · exact Or.inl (Or.inr (Or.inr ⟨d, by omega, d2⟩))
            · rintro ((q1 | q1 | ⟨d, d1, d2⟩) | q1)
              · exact Or.inl q1
              · exact Or.inr (Or.inl q1)
              · exact Or.inr (Or.inr ⟨d, by omega, d2⟩)
              · exact Or.inr (Or.inr ⟨i, by omega, q1⟩)
          have yes : tkM μ nt (i + 1) tl q → px_G Γ G (px_Q Γ G true K) true 0 0 112 [some (.ref zm), some (.int (nI a)), some (.int (nI c)), some (.int v), some (.int (nI q)), some (.int b), some (.int (nI i))] [] π1 := by
            intro q2
            refine pg_iconst X (1) d_M_wall_112 (by decide) ?_
            refine pg_goto X d_M_wall_113 ?_
            refine pg_istore5 X d_M_wall_117 ?_
            refine pg_iinc6 X d_M_wall_119 ?_
            refine pg_goto X d_M_wall_122 ?_
            rw [nI_i1]
            exact ih (i + 1) 1 (by omega) (Or.inl ⟨rfl, q2⟩)
          have no : ¬ tkM μ nt (i + 1) tl q → px_G Γ G (px_Q Γ G true K) true 0 0 116 [some (.ref zm), some (.int (nI a)), some (.int (nI c)), some (.int v), some (.int (nI q)), some (.int b), some (.int (nI i))] [] π1 := by
            intro q2
            refine pg_iconst X (0) d_M_wall_116 (by decide) ?_
            refine pg_istore5 X d_M_wall_117 ?_
            refine pg_iinc6 X d_M_wall_119 ?_
            refine pg_goto X d_M_wall_122 ?_
            rw [nI_i1]
            exact ih (i + 1) 0 (by omega) (Or.inr ⟨rfl, q2⟩)
          refine pg_iload X d_M_wall_86 rfl ?_
          refine pg_aload_n X d_M_wall_88 rfl ?_
          refine pg_getf X (f_M_116 hG) d_M_wall_89 (px_rd_of (by first | exact R.o | exact R _ (by decide) | assumption)) rfl ?_
          rw [f5]
          refine pg_icmp_ge X d_M_wall_92 (fun c1 => ?_) (fun c1 => ?_)
          · simp (disch := omega) only [Int32.lt_iff_toInt_lt, Int32.le_iff_toInt_le, nI_toInt, px_l0, px_l1, px_l2, px_l3, px_l4, px_l5, px_l6, px_l10, px_l11, px_l12, px_l16, px_l30, px_l100, px_l400] at c1
            omega
          refine pg_iload X d_M_wall_95 rfl ?_
          refine pg_if_ne X d_M_wall_97 (fun c2 => ?_) (fun c2 => ?_)
          · exact yes (step.mpr (Or.inl (hb.elim (fun q2 => q2.2) (fun q2 => absurd q2.1 c2))))
          have hn : ¬ tkM μ nt i tl q := hb.elim (fun q2 => absurd q2.1 (by rw [c2]; decide)) (fun q2 => q2.2)
          refine pg_aload_n X d_M_wall_100 rfl ?_
          refine pg_getf X (f_M_26 hG) d_M_wall_101 (px_rd_of (by first | exact R.o | exact R _ (by decide) | assumption)) rfl ?_
          refine pg_iload X d_M_wall_104 rfl ?_
          refine pg_ialdN X d_M_wall_106 (px_rd_of (by first | exact R.o | exact R _ (by decide) | assumption)) (by first | assumption | omega) (by first | assumption | omega) ?_
          refine pg_iload X d_M_wall_107 rfl ?_
          rw [g6]
          refine pg_icmp_ne X d_M_wall_109 (fun c4 => ?_) (fun c4 => ?_)
          · exact no (fun q2 => (step.mp q2).elim hn c4)
          · exact yes (step.mpr (Or.inr c4))
      have one : ∀ r i b, i + r = nt → ((b = 1 ∧ tkM μ i 0 tl q) ∨ (b = 0 ∧ ¬ tkM μ i 0 tl q)) → px_G Γ G (px_Q Γ G true K) true 0 0 44 [some (.ref zm), some (.int (nI a)), some (.int (nI c)), some (.int v), some (.int (nI q)), some (.int b), some (.int (nI i))] [] π1 := by
        intro r
        induction r with
        | zero =>
          intro i b hi hb
          have ei : i = nt := by omega
          subst ei
          refine pg_iload X d_M_wall_44 rfl ?_
          refine pg_aload_n X d_M_wall_46 rfl ?_
          refine pg_getf X (f_M_113 hG) d_M_wall_47 (px_rd_of (by first | exact R.o | exact R _ (by decide) | assumption)) rfl ?_
          rw [f4]
          refine pg_icmp_ge X d_M_wall_50 (fun c1 => ?_) (fun c1 => ?_)
          · refine pg_iconst X (0) d_M_wall_83 (by decide) ?_
            refine pg_istore6 X d_M_wall_84 ?_
            exact two nd 0 b (by omega) hb
          · simp (disch := omega) only [Int32.lt_iff_toInt_lt, Int32.le_iff_toInt_le, nI_toInt, px_l0, px_l1, px_l2, px_l3, px_l4, px_l5, px_l6, px_l10, px_l11, px_l12, px_l16, px_l30, px_l100, px_l400] at c1
            omega
        | succ r ih =>
          intro i b hi hb
          have step : tkM μ (i + 1) 0 tl q ↔ tkM μ i 0 tl q ∨ μ 2 i = nI q := by
            unfold tkM
            constructor
            · rintro (q1 | ⟨d, d1, d2⟩ | q1)
              · exact Or.inl (Or.inl q1)
              · by_cases e : d = i
                · rw [e] at d2
                  exact Or.inr d2
                · exact Or.inl (Or.inr (Or.inl ⟨d, by omega, d2⟩))
              · exact Or.inl (Or.inr (Or.inr q1))
            · rintro ((q1 | ⟨d, d1, d2⟩ | q1) | q1)
              · exact Or.inl q1
              · exact Or.inr (Or.inl ⟨d, by omega, d2⟩)
              · exact Or.inr (Or.inr q1)
              · exact Or.inr (Or.inl ⟨i, by omega, q1⟩)
          have yes : tkM μ (i + 1) 0 tl q → px_G Γ G (px_Q Γ G true K) true 0 0 70 [some (.ref zm), some (.int (nI a)), some (.int (nI c)), some (.int v), some (.int (nI q)), some (.int b), some (.int (nI i))] [] π1 := by
            intro q2
            refine pg_iconst X (1) d_M_wall_70 (by decide) ?_
            refine pg_goto X d_M_wall_71 ?_
            refine pg_istore5 X d_M_wall_75 ?_
            refine pg_iinc6 X d_M_wall_77 ?_
            refine pg_goto X d_M_wall_80 ?_
            rw [nI_i1]
            exact ih (i + 1) 1 (by omega) (Or.inl ⟨rfl, q2⟩)
          have no : ¬ tkM μ (i + 1) 0 tl q → px_G Γ G (px_Q Γ G true K) true 0 0 74 [some (.ref zm), some (.int (nI a)), some (.int (nI c)), some (.int v), some (.int (nI q)), some (.int b), some (.int (nI i))] [] π1 := by
            intro q2
            refine pg_iconst X (0) d_M_wall_74 (by decide) ?_
            refine pg_istore5 X d_M_wall_75 ?_
            refine pg_iinc6 X d_M_wall_77 ?_
            refine pg_goto X d_M_wall_80 ?_
            rw [nI_i1]
            exact ih (i + 1) 0 (by omega) (Or.inr ⟨rfl, q2⟩)
          refine pg_iload X d_M_wall_44 rfl ?_
          refine pg_aload_n X d_M_wall_46 rfl ?_
          refine pg_getf X (f_M_113 hG) d_M_wall_47 (px_rd_of (by first | exact R.o | exact R _ (by decide) | assumption)) rfl ?_
          rw [f4]
          refine pg_icmp_ge X d_M_wall_50 (fun c1 => ?_) (fun c1 => ?_)
          · simp (disch := omega) only [Int32.lt_iff_toInt_lt, Int32.le_iff_toInt_le, nI_toInt, px_l0, px_l1, px_l2, px_l3, px_l4, px_l5, px_l6, px_l10, px_l11, px_l12, px_l16, px_l30, px_l100, px_l400] at c1
            omega
          refine pg_iload X d_M_wall_53 rfl ?_
          refine pg_if_ne X d_M_wall_55 (fun c2 => ?_) (fun c2 => ?_)
          · exact yes (step.mpr (Or.inl (hb.elim (fun q2 => q2.2) (fun q2 => absurd q2.1 c2))))
          have hn : ¬ tkM μ i 0 tl q := hb.elim (fun q2 => absurd q2.1 (by rw [c2]; decide)) (fun q2 => q2.2)
          refine pg_aload_n X d_M_wall_58 rfl ?_
          refine pg_getf X (f_M_13 hG) d_M_wall_59 (px_rd_of (by first | exact R.o | exact R _ (by decide) | assumption)) rfl ?_
          refine pg_iload X d_M_wall_62 rfl ?_
          refine pg_ialdN X d_M_wall_64 (px_rd_of (by first | exact R.o | exact R _ (by decide) | assumption)) (by first | assumption | omega) (by first | assumption | omega) ?_
          refine pg_iload X d_M_wall_65 rfl ?_
          rw [g2]
          refine pg_icmp_ne X d_M_wall_67 (fun c4 => ?_) (fun c4 => ?_)
          · exact no (fun q2 => (step.mp q2).elim hn c4)
          · exact yes (step.mpr (Or.inr c4))
      have hcn := cn_le (p := fun z => μ 10 z = 1 ∧ μ 11 z = nI q) tl
      have t0 : tkM μ 0 0 tl q ↔ 0 < cn (fun z => μ 10 z = 1 ∧ μ 11 z = nI q) tl := by
        unfold tkM
        constructor
        · rintro (q1 | ⟨d, d1, -⟩ | ⟨d, d1, -⟩)
          · exact q1
          · exact absurd d1 (Nat.not_lt_zero d)
          · exact absurd d1 (Nat.not_lt_zero d)
        · exact Or.inl
      refine pg_istore4 X d_M_wall_23 ?_
      refine pg_aload_n X d_M_wall_25 rfl ?_
      refine pg_iload X d_M_wall_26 rfl ?_
      refine pc_V (ci := 4) (As := [_]) X Y d_M_wall_28 (c_M_109 hG) (i_M_crowdOf hG) (v_M_crowdOf hG) (fun r h => by rw [hG.2] at h; cases h; rfl) rfl rfl (Nat.le_of_ble_eq_true rfl) (by rw [hR]; exact ⟨by decide, by decide⟩) (by decide) (by decide) (by rw [hR]; first | decide | (dsimp only [px_rm]; omega)) (by rw [hR]; first | decide | (dsimp only [px_rm]; omega)) (px_rd_of (by first | exact R.o | assumption)) (t_M_crowdOf A R f8 htl ?_)
      have ecn : cn (fun z => up2 μ 0 0 0 10 z = 1 ∧ up2 μ 0 0 0 11 z = nI q) tl = cn (fun z => μ 10 z = 1 ∧ μ 11 z = nI q) tl := rfl
      rw [ecn]
      refine pg_if_le X d_M_wall_31 (fun c1 => ?_) (fun c1 => ?_)
      · simp (disch := omega) only [Int32.lt_iff_toInt_lt, Int32.le_iff_toInt_le, nI_toInt, px_l0, px_l1, px_l2, px_l3, px_l4, px_l5, px_l6, px_l10, px_l11, px_l12, px_l16, px_l30, px_l100, px_l400] at c1
        refine pg_iconst X (0) d_M_wall_38 (by decide) ?_
        refine pg_istore5 X d_M_wall_39 ?_
        refine pg_iconst X (0) d_M_wall_41 (by decide) ?_
        refine pg_istore6 X d_M_wall_42 ?_
        exact one nt 0 0 (by omega) (Or.inr ⟨rfl, fun q2 => by have := t0.mp q2; omega⟩)
      · simp (disch := omega) only [Int32.lt_iff_toInt_lt, Int32.le_iff_toInt_le, nI_toInt, px_l0, px_l1, px_l2, px_l3, px_l4, px_l5, px_l6, px_l10, px_l11, px_l12, px_l16, px_l30, px_l100, px_l400] at c1
        refine pg_iconst X (1) d_M_wall_34 (by decide) ?_
        refine pg_goto X d_M_wall_35 ?_
        refine pg_istore5 X d_M_wall_39 ?_
        refine pg_iconst X (0) d_M_wall_41 (by decide) ?_
        refine pg_istore6 X d_M_wall_42 ?_
        exact one nt 0 1 (by omega) (Or.inl ⟨rfl, t0.mpr (by omega)⟩)
    · exact absurd c3 (by decide)
  · refine pg_iconst X (1) d_M_wall_7 (by decide) ?_
    refine pg_iconst X (1) d_M_wall_8 (by decide) ?_
    refine pc_V (ci := 4) (As := [_, _, _]) X Y d_M_wall_9 (c_M_105 hG) (i_M_goes hG) (v_M_goes hG) (fun r h => by rw [hG.2] at h; cases h; rfl) rfl rfl (Nat.le_of_ble_eq_true rfl) (by rw [hR]; exact ⟨by decide, by decide⟩) (by decide) (by decide) (by rw [hR]; first | decide | (dsimp only [px_rm]; omega)) (by rw [hR]; first | decide | (dsimp only [px_rm]; omega)) (px_rd_of (by first | exact R.o | assumption)) (t_M_goes A S (fun q2 => absurd rfl q2.1) (fun q2 π1 S1 => ?_))
    refine pg_if_ne X d_M_wall_12 (fun c3 => ?_) (fun c3 => ?_)
    · exact absurd rfl c3
    refine pg_iconst X (0) d_M_wall_15 (by decide) ?_
    exact pg_iret X Y d_M_wall_16 rfl (by decide) (Nat.zero_le _) (Nat.zero_le _) (k0 q1 _ S1)
end MP4
