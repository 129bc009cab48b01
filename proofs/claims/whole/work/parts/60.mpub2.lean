/-! THE MODEL: counted, at, about, arrives -/
section MP2
variable {l : Launch} {G : px_Cg} {π π0 : px_H} {K : Option Value ⊕ String → px_H → Prop} {zm n nt nd wd ht tl : Nat} {μ h w : Nat → Nat → Int32} {x y s : Int32}
theorem t_M_counted (A : GA G) (S : SM zm μ π0 π) (h4 : μ 0 4 = nI nt) (hnt : nt ≤ 6) (k1 : ∀ t, t < nt → x = nI t → -1 ≤ y → y ≤ 100 → ∀ π1, SM zm (up2 (up2 μ 0 0 0) 5 t y) π0 π1 → K (.inl none) π1) (k0 : (¬ ∃ t, t < nt ∧ x = nI t) → ∀ π1, SM zm (up2 μ 0 0 1) π0 π1 → K (.inl none) π1) (k02 : (∃ t, t < nt ∧ x = nI t) → ¬ (-1 ≤ y ∧ y ≤ 100) → ∀ π1, SM zm (up2 μ 0 0 2) π0 π1 → K (.inl none) π1) :
    px_P l G y_M_counted b_M_counted 3 none (px_rm 1 23) true [.ref zm, .int x, .int y] π K := by
  have hG := A.1
  have hZ := A.2.1
  refine px_P.intro (by decide) hZ (by simp [Value.category]) (Nat.le_of_ble_eq_true rfl) rfl ?_
  intro Γ hl hR X Y hnm hs hbel
  subst hl
  refine pg_w ?_
  have R := S.1
  refine pg_aload_n X d_M_counted_0 rfl ?_
  refine pg_iload_n X d_M_counted_1 rfl ?_
  refine pg_iconst X (0) d_M_counted_2 (by decide) ?_
  refine pg_aload_n X d_M_counted_3 rfl ?_
  refine pg_getf X (f_M_113 hG) d_M_counted_4 (px_rd_of (by first | exact R.o | exact R _ (by decide) | assumption)) rfl ?_
  refine pg_iconst X (1) d_M_counted_7 (by decide) ?_
  refine pg_isub X d_M_counted_8 ?_
  rw [h4]
  refine pc_S (As := [_, _, _]) X Y d_M_counted_9 (c_M_94 hG) (s_M_within hG) rfl rfl (Nat.le_of_ble_eq_true rfl) (by rw [hR]; exact ⟨by decide, by decide⟩) (by decide) (by decide) (by rw [hR]; first | decide | (dsimp only [px_rm]; omega)) (by rw [hR]; first | decide | (dsimp only [px_rm]; omega)) (t_M_within A (fun q1 => ?_) (fun q1 => ?_))
  · have q1' := (in_rng (by omega)).mp q1
    refine pg_iload_n X d_M_counted_12 rfl ?_
    refine pg_iconst X (-1) d_M_counted_13 (by decide) ?_
    refine pg_bipush X (100) d_M_counted_14 (by decide) ?_
    refine pc_S (As := [_, _, _]) X Y d_M_counted_16 (c_M_94 hG) (s_M_within hG) rfl rfl (Nat.le_of_ble_eq_true rfl) (by rw [hR]; exact ⟨by decide, by decide⟩) (by decide) (by decide) (by rw [hR]; first | decide | (dsimp only [px_rm]; omega)) (by rw [hR]; first | decide | (dsimp only [px_rm]; omega)) (t_M_within A (fun q2 => ?_) (fun q2 => ?_))
    · refine pg_iconst X (1) d_M_counted_19 (by decide) ?_
      refine pc_V (ci := 4) (As := [_, _, _]) X Y d_M_counted_20 (c_M_105 hG) (i_M_goes hG) (v_M_goes hG) (fun r h => by rw [hG.2] at h; cases h; rfl) rfl rfl (Nat.le_of_ble_eq_true rfl) (by rw [hR]; exact ⟨by decide, by decide⟩) (by decide) (by decide) (by rw [hR]; first | decide | (dsimp only [px_rm]; omega)) (by rw [hR]; first | decide | (dsimp only [px_rm]; omega)) (px_rd_of (by first | exact R.o | assumption)) (t_M_goes A S (fun _ π1 S => ?_) (fun q2 => absurd ⟨by decide, by decide, by decide⟩ q2))
      obtain ⟨t, ht, et⟩ := q1'
      have k1 := k1 t ht et q2.1 q2.2
      refine pg_if_eq X d_M_counted_23 (fun c3 => ?_) (fun c3 => ?_)
      · exact absurd c3 (by decide)
      have R := S.1
      rw [et]
      refine pg_aload_n X d_M_counted_26 rfl ?_
      refine pg_getf X (f_M_23 hG) d_M_counted_27 (px_rd_of (by first | exact R.o | exact R _ (by decide) | assumption)) rfl ?_
      refine pg_iload_n X d_M_counted_30 rfl ?_
      refine pg_iload_n X d_M_counted_31 rfl ?_
      refine pm_ist X S (fun _ => rfl) (by decide) d_M_counted_32 (by first | assumption | omega) (by first | assumption | omega) (fun π1 S => ?_)
      have R := S.1
      exact pg_vret X Y d_M_counted_33 (by decide) (Nat.zero_le _) (Nat.zero_le _) (k1 _ S)
    · refine pg_iconst X (1) d_M_counted_19 (by decide) ?_
      refine pc_V (ci := 4) (As := [_, _, _]) X Y d_M_counted_20 (c_M_105 hG) (i_M_goes hG) (v_M_goes hG) (fun r h => by rw [hG.2] at h; cases h; rfl) rfl rfl (Nat.le_of_ble_eq_true rfl) (by rw [hR]; exact ⟨by decide, by decide⟩) (by decide) (by decide) (by rw [hR]; first | decide | (dsimp only [px_rm]; omega)) (by rw [hR]; first | decide | (dsimp only [px_rm]; omega)) (px_rd_of (by first | exact R.o | assumption)) (t_M_goes A S (fun q3 => absurd rfl q3.2.1) (fun q3 π1 S1 => ?_))
      refine pg_if_eq X d_M_counted_23 (fun c3 => ?_) (fun c3 => ?_)
      · exact pg_vret X Y d_M_counted_33 (by decide) (Nat.zero_le _) (Nat.zero_le _) (k02 q1' q2 _ S1)
      · exact absurd rfl c3
  · refine pg_iload_n X d_M_counted_12 rfl ?_
    refine pg_iconst X (-1) d_M_counted_13 (by decide) ?_
    refine pg_bipush X (100) d_M_counted_14 (by decide) ?_
    refine pc_S (As := [_, _, _]) X Y d_M_counted_16 (c_M_94 hG) (s_M_within hG) rfl rfl (Nat.le_of_ble_eq_true rfl) (by rw [hR]; exact ⟨by decide, by decide⟩) (by decide) (by decide) (by rw [hR]; first | decide | (dsimp only [px_rm]; omega)) (by rw [hR]; first | decide | (dsimp only [px_rm]; omega)) (t_M_within A (fun q2 => ?_) (fun q2 => ?_))
    · refine pg_iconst X (1) d_M_counted_19 (by decide) ?_
      refine pc_V (ci := 4) (As := [_, _, _]) X Y d_M_counted_20 (c_M_105 hG) (i_M_goes hG) (v_M_goes hG) (fun r h => by rw [hG.2] at h; cases h; rfl) rfl rfl (Nat.le_of_ble_eq_true rfl) (by rw [hR]; exact ⟨by decide, by decide⟩) (by decide) (by decide) (by rw [hR]; first | decide | (dsimp only [px_rm]; omega)) (by rw [hR]; first | decide | (dsimp only [px_rm]; omega)) (px_rd_of (by first | exact R.o | assumption)) (t_M_goes A S (fun q3 => absurd rfl q3.1) (fun q3 π1 S1 => ?_))
      refine pg_if_eq X d_M_counted_23 (fun c3 => ?_) (fun c3 => ?_)
      · exact pg_vret X Y d_M_counted_33 (by decide) (Nat.zero_le _) (Nat.zero_le _) (k0 (fun q => q1 ((in_rng (by omega)).mpr q)) _ S1)
      · exact absurd rfl c3
    · refine pg_iconst X (1) d_M_counted_19 (by decide) ?_
      refine pc_V (ci := 4) (As := [_, _, _]) X Y d_M_counted_20 (c_M_105 hG) (i_M_goes hG) (v_M_goes hG) (fun r h => by rw [hG.2] at h; cases h; rfl) rfl rfl (Nat.le_of_ble_eq_true rfl) (by rw [hR]; exact ⟨by decide, by decide⟩) (by decide) (by decide) (by rw [hR]; first | decide | (dsimp only [px_rm]; omega)) (by rw [hR]; first | decide | (dsimp only [px_rm]; omega)) (px_rd_of (by first | exact R.o | assumption)) (t_M_goes A S (fun q3 => absurd rfl q3.1) (fun q3 π1 S1 => ?_))
      refine pg_if_eq X d_M_counted_23 (fun c3 => ?_) (fun c3 => ?_)
      · exact pg_vret X Y d_M_counted_33 (by decide) (Nat.zero_le _) (Nat.zero_le _) (k0 (fun q => q1 ((in_rng (by omega)).mpr q)) _ S1)
      · exact absurd rfl c3
/-- at, in the model's cells -/
def atM (μ : Nat → Nat → Int32) (i : Nat) (a : Int32) : Int32 := if μ 10 i = 1 then (if a = 0 then irm (μ 11 i) 12 else μ 11 i / 12) else -1
theorem t_M_at (A : GA G) (S : SM zm μ π0 π) (h8 : μ 0 8 = nI tl) (htl : tl ≤ 16) (k1 : ∀ i, i < tl → x = nI i → 0 ≤ y → y ≤ 1 → ∀ π1, SM zm (up2 μ 0 0 0) π0 π1 → K (.inl (some (.int (atM μ i y)))) π1) (k0 : ¬ ((∃ i, i < tl ∧ x = nI i) ∧ 0 ≤ y ∧ y ≤ 1) → ∀ π1, SM zm (up2 μ 0 0 1) π0 π1 → K (.inl (some (.int 0))) π1) :
    px_P l G y_M_at b_M_at 3 (some .int) (px_rm 2 43) true [.ref zm, .int x, .int y] π K := by
  have hG := A.1
  have hZ := A.2.1
  refine px_P.intro (by decide) hZ (by simp [Value.category]) (Nat.le_of_ble_eq_true rfl) rfl ?_
  intro Γ hl hR X Y hnm hs hbel
  subst hl
  refine pg_w ?_
  have R := S.1
  have bad : ¬ ((∃ i, i < tl ∧ x = nI i) ∧ 0 ≤ y ∧ y ≤ 1) → px_G Γ G (px_Q Γ G true K) true 0 0 22 [some (.ref zm), some (.int x), some (.int y)] [.ref zm] π := by
    intro q
    refine pg_iconst X (0) d_M_at_22 (by decide) ?_
    refine pg_iconst X (1) d_M_at_23 (by decide) ?_
    refine pg_iconst X (1) d_M_at_24 (by decide) ?_
    refine pc_V (ci := 4) (As := [_, _, _]) X Y d_M_at_25 (c_M_105 hG) (i_M_goes hG) (v_M_goes hG) (fun r h => by rw [hG.2] at h; cases h; rfl) rfl rfl (Nat.le_of_ble_eq_true rfl) (by rw [hR]; exact ⟨by decide, by decide⟩) (by decide) (by decide) (by rw [hR]; first | decide | (dsimp only [px_rm]; omega)) (by rw [hR]; first | decide | (dsimp only [px_rm]; omega)) (px_rd_of (by first | exact R.o | assumption)) (t_M_goes A S (fun q2 => absurd rfl q2.1) (fun q2 π1 S1 => ?_))
    refine pg_if_ne X d_M_at_28 (fun c3 => ?_) (fun c3 => ?_)
    · exact absurd rfl c3
    refine pg_iconst X (0) d_M_at_31 (by decide) ?_
    exact pg_iret X Y d_M_at_32 rfl (by decide) (Nat.zero_le _) (Nat.zero_le _) (k0 q _ S1)
  refine pg_aload_n X d_M_at_0 rfl ?_
  refine pg_aload_n X d_M_at_1 rfl ?_
  refine pg_iload_n X d_M_at_2 rfl ?_
  refine pc_V (ci := 4) (As := [_]) X Y d_M_at_3 (c_M_173 hG) (i_M_isVisitor hG) (v_M_isVisitor hG) (fun r h => by rw [hG.2] at h; cases h; rfl) rfl rfl (Nat.le_of_ble_eq_true rfl) (by rw [hR]; exact ⟨by decide, by decide⟩) (by decide) (by decide) (by rw [hR]; first | decide | (dsimp only [px_rm]; omega)) (by rw [hR]; first | decide | (dsimp only [px_rm]; omega)) (px_rd_of (by first | exact R.o | assumption)) (t_M_isVisitor A R h8 htl (fun q1 => ?_) (fun q1 => ?_))
  · refine pg_if_eq X d_M_at_6 (fun c1 => ?_) (fun c1 => ?_)
    · exact absurd c1 (by decide)
    refine pg_iload_n X d_M_at_9 rfl ?_
    refine pg_iconst X (0) d_M_at_10 (by decide) ?_
    refine pg_iconst X (1) d_M_at_11 (by decide) ?_
    refine pc_S (As := [_, _, _]) X Y d_M_at_12 (c_M_94 hG) (s_M_within hG) rfl rfl (Nat.le_of_ble_eq_true rfl) (by rw [hR]; exact ⟨by decide, by decide⟩) (by decide) (by decide) (by rw [hR]; first | decide | (dsimp only [px_rm]; omega)) (by rw [hR]; first | decide | (dsimp only [px_rm]; omega)) (t_M_within A (fun q2 => ?_) (fun q2 => ?_))
    · refine pg_if_eq X d_M_at_15 (fun c2 => ?_) (fun c2 => ?_)
      · exact absurd c2 (by decide)
      refine pg_iconst X (1) d_M_at_18 (by decide) ?_
      refine pg_goto X d_M_at_19 ?_
      refine pg_iconst X (1) d_M_at_23 (by decide) ?_
      refine pg_iconst X (1) d_M_at_24 (by decide) ?_
      refine pc_V (ci := 4) (As := [_, _, _]) X Y d_M_at_25 (c_M_105 hG) (i_M_goes hG) (v_M_goes hG) (fun r h => by rw [hG.2] at h; cases h; rfl) rfl rfl (Nat.le_of_ble_eq_true rfl) (by rw [hR]; exact ⟨by decide, by decide⟩) (by decide) (by decide) (by rw [hR]; first | decide | (dsimp only [px_rm]; omega)) (by rw [hR]; first | decide | (dsimp only [px_rm]; omega)) (px_rd_of (by first | exact R.o | assumption)) (t_M_goes A S (fun _ π1 S => ?_) (fun q2 => absurd ⟨by decide, by decide, by decide⟩ q2))
      obtain ⟨i, hi, ei⟩ := q1
      have k1 := k1 i hi ei q2.1 q2.2
      unfold atM at k1
      refine pg_if_ne X d_M_at_28 (fun c3 => ?_) (fun c3 => ?_)
      · have R := S.1
        rw [ei]
        refine pg_aload_n X d_M_at_33 rfl ?_
        refine pg_getf X (f_M_45 hG) d_M_at_34 (px_rd_of (by first | exact R.o | exact R _ (by decide) | assumption)) rfl ?_
        refine pg_iload_n X d_M_at_37 rfl ?_
        refine pg_ialdN X d_M_at_38 (px_rd_of (by first | exact R.o | exact R _ (by decide) | assumption)) (by first | assumption | omega) (by first | assumption | omega) ?_
        refine pg_iconst X (1) d_M_at_39 (by decide) ?_
        have e10 : up2 μ 0 0 0 10 i = μ 10 i := up2_n (Or.inl (by decide))
        have e11 : up2 μ 0 0 0 11 i = μ 11 i := up2_n (Or.inl (by decide))
        rw [e10]
        refine pg_icmp_eq X d_M_at_40 (fun c4 => ?_) (fun c4 => ?_)
        · rw [if_pos c4] at k1
          refine pg_iload_n X d_M_at_47 rfl ?_
          refine pg_if_ne X d_M_at_48 (fun c5 => ?_) (fun c5 => ?_)
          · rw [if_neg c5] at k1
            refine pg_aload_n X d_M_at_63 rfl ?_
            refine pg_getf X (f_M_48 hG) d_M_at_64 (px_rd_of (by first | exact R.o | exact R _ (by decide) | assumption)) rfl ?_
            refine pg_iload_n X d_M_at_67 rfl ?_
            refine pg_ialdN X d_M_at_68 (px_rd_of (by first | exact R.o | exact R _ (by decide) | assumption)) (by first | assumption | omega) (by first | assumption | omega) ?_
            refine pg_bipush X (12) d_M_at_69 (by decide) ?_
            refine pg_idiv X d_M_at_71 (by decide) ?_
            rw [e11]
            exact pg_iret X Y d_M_at_72 rfl (by decide) (Nat.zero_le _) (Nat.zero_le _) (k1 _ S)
          · rw [if_pos c5] at k1
            refine pg_aload_n X d_M_at_51 rfl ?_
            refine pg_getf X (f_M_48 hG) d_M_at_52 (px_rd_of (by first | exact R.o | exact R _ (by decide) | assumption)) rfl ?_
            refine pg_iload_n X d_M_at_55 rfl ?_
            refine pg_ialdN X d_M_at_56 (px_rd_of (by first | exact R.o | exact R _ (by decide) | assumption)) (by first | assumption | omega) (by first | assumption | omega) ?_
            refine pg_bipush X (12) d_M_at_57 (by decide) ?_
            refine pg_irem X d_M_at_59 (by decide) ?_
            rw [e11]
            refine pg_goto X d_M_at_60 ?_
            exact pg_iret X Y d_M_at_72 rfl (by decide) (Nat.zero_le _) (Nat.zero_le _) (k1 _ S)
        · rw [if_neg c4] at k1
          refine pg_iconst X (-1) d_M_at_43 (by decide) ?_
          refine pg_goto X d_M_at_44 ?_
          exact pg_iret X Y d_M_at_72 rfl (by decide) (Nat.zero_le _) (Nat.zero_le _) (k1 _ S)
      · exact absurd c3 (by decide)
    · refine pg_if_eq X d_M_at_15 (fun c2 => ?_) (fun c2 => ?_)
      · exact bad (fun q => q2 q.2)
      · exact absurd rfl c2
  · refine pg_if_eq X d_M_at_6 (fun c1 => ?_) (fun c1 => ?_)
    · exact bad (fun q => q1 q.1)
    · exact absurd rfl c1
def abM (μ : Nat → Nat → Int32) (i : Nat) (a : Int32) : Int32 := if a = 0 then μ 10 i else if a = 1 then μ 12 i else mny (μ 14 i) 6
theorem t_M_about (A : GA G) (S : SM zm μ π0 π) (h8 : μ 0 8 = nI tl) (htl : tl ≤ 16) (k1 : ∀ i, i < tl → x = nI i → 0 ≤ y → y ≤ 2 → ∀ π1, SM zm (up2 μ 0 0 0) π0 π1 → K (.inl (some (.int (abM μ i y)))) π1) (k0 : ¬ ((∃ i, i < tl ∧ x = nI i) ∧ 0 ≤ y ∧ y ≤ 2) → ∀ π1, SM zm (up2 μ 0 0 1) π0 π1 → K (.inl (some (.int 0))) π1) :
    px_P l G y_M_about b_M_about 3 (some .int) (px_rm 2 43) true [.ref zm, .int x, .int y] π K := by
  have hG := A.1
  have hZ := A.2.1
  refine px_P.intro (by decide) hZ (by simp [Value.category]) (Nat.le_of_ble_eq_true rfl) rfl ?_
  intro Γ hl hR X Y hnm hs hbel
  subst hl
  refine pg_w ?_
  have R := S.1
  have bad : ¬ ((∃ i, i < tl ∧ x = nI i) ∧ 0 ≤ y ∧ y ≤ 2) → px_G Γ G (px_Q Γ G true K) true 0 0 22 [some (.ref zm), some (.int x), some (.int y)] [.ref zm] π := by
    intro q
    refine pg_iconst X (0) d_M_about_22 (by decide) ?_
    refine pg_iconst X (1) d_M_about_23 (by decide) ?_
    refine pg_iconst X (1) d_M_about_24 (by decide) ?_
    refine pc_V (ci := 4) (As := [_, _, _]) X Y d_M_about_25 (c_M_105 hG) (i_M_goes hG) (v_M_goes hG) (fun r h => by rw [hG.2] at h; cases h; rfl) rfl rfl (Nat.le_of_ble_eq_true rfl) (by rw [hR]; exact ⟨by decide, by decide⟩) (by decide) (by decide) (by rw [hR]; first | decide | (dsimp only [px_rm]; omega)) (by rw [hR]; first | decide | (dsimp only [px_rm]; omega)) (px_rd_of (by first | exact R.o | assumption)) (t_M_goes A S (fun q2 => absurd rfl q2.1) (fun q2 π1 S1 => ?_))
    refine pg_if_ne X d_M_about_28 (fun c3 => ?_) (fun c3 => ?_)
    · exact absurd rfl c3
    refine pg_iconst X (0) d_M_about_31 (by decide) ?_
    exact pg_iret X Y d_M_about_32 rfl (by decide) (Nat.zero_le _) (Nat.zero_le _) (k0 q _ S1)
  refine pg_aload_n X d_M_about_0 rfl ?_
  refine pg_aload_n X d_M_about_1 rfl ?_
  refine pg_iload_n X d_M_about_2 rfl ?_
  refine pc_V (ci := 4) (As := [_]) X Y d_M_about_3 (c_M_173 hG) (i_M_isVisitor hG) (v_M_isVisitor hG) (fun r h => by rw [hG.2] at h; cases h; rfl) rfl rfl (Nat.le_of_ble_eq_true rfl) (by rw [hR]; exact ⟨by decide, by decide⟩) (by decide) (by decide) (by rw [hR]; first | decide | (dsimp only [px_rm]; omega)) (by rw [hR]; first | decide | (dsimp only [px_rm]; omega)) (px_rd_of (by first | exact R.o | assumption)) (t_M_isVisitor A R h8 htl (fun q1 => ?_) (fun q1 => ?_))
  · refine pg_if_eq X d_M_about_6 (fun c1 => ?_) (fun c1 => ?_)
    · exact absurd c1 (by decide)
    refine pg_iload_n X d_M_about_9 rfl ?_
    refine pg_iconst X (0) d_M_about_10 (by decide) ?_
    refine pg_iconst X (2) d_M_about_11 (by decide) ?_
    refine pc_S (As := [_, _, _]) X Y d_M_about_12 (c_M_94 hG) (s_M_within hG) rfl rfl (Nat.le_of_ble_eq_true rfl) (by rw [hR]; exact ⟨by decide, by decide⟩) (by decide) (by decide) (by rw [hR]; first | decide | (dsimp only [px_rm]; omega)) (by rw [hR]; first | decide | (dsimp only [px_rm]; omega)) (t_M_within A (fun q2 => ?_) (fun q2 => ?_))
    · refine pg_if_eq X d_M_about_15 (fun c2 => ?_) (fun c2 => ?_)
      · exact absurd c2 (by decide)
      refine pg_iconst X (1) d_M_about_18 (by decide) ?_
      refine pg_goto X d_M_about_19 ?_
      refine pg_iconst X (1) d_M_about_23 (by decide) ?_
      refine pg_iconst X (1) d_M_about_24 (by decide) ?_
      refine pc_V (ci := 4) (As := [_, _, _]) X Y d_M_about_25 (c_M_105 hG) (i_M_goes hG) (v_M_goes hG) (fun r h => by rw [hG.2] at h; cases h; rfl) rfl rfl (Nat.le_of_ble_eq_true rfl) (by rw [hR]; exact ⟨by decide, by decide⟩) (by decide) (by decide) (by rw [hR]; first | decide | (dsimp only [px_rm]; omega)) (by rw [hR]; first | decide | (dsimp only [px_rm]; omega)) (px_rd_of (by first | exact R.o | assumption)) (t_M_goes A S (fun _ π1 S => ?_) (fun q2 => absurd ⟨by decide, by decide, by decide⟩ q2))
      obtain ⟨i, hi, ei⟩ := q1
      have k1 := k1 i hi ei q2.1 q2.2
      unfold abM at k1
      refine pg_if_ne X d_M_about_28 (fun c3 => ?_) (fun c3 => ?_)
      · have R := S.1
        rw [ei]
        have e10 : up2 μ 0 0 0 10 i = μ 10 i := up2_n (Or.inl (by decide))
        have e12 : up2 μ 0 0 0 12 i = μ 12 i := up2_n (Or.inl (by decide))
        have e14 : up2 μ 0 0 0 14 i = μ 14 i := up2_n (Or.inl (by decide))
        refine pg_iload_n X d_M_about_33 rfl ?_
        refine pg_if_ne X d_M_about_34 (fun c4 => ?_) (fun c4 => ?_)
        · rw [if_neg c4] at k1
          refine pg_iload_n X d_M_about_46 rfl ?_
          refine pg_iconst X (1) d_M_about_47 (by decide) ?_
          refine pg_icmp_ne X d_M_about_48 (fun c5 => ?_) (fun c5 => ?_)
          · rw [if_neg c5] at k1
            refine pg_aload_n X d_M_about_60 rfl ?_
            refine pg_aload_n X d_M_about_61 rfl ?_
            refine pg_getf X (f_M_57 hG) d_M_about_62 (px_rd_of (by first | exact R.o | exact R _ (by decide) | assumption)) rfl ?_
            refine pg_iload_n X d_M_about_65 rfl ?_
            refine pg_ialdN X d_M_about_66 (px_rd_of (by first | exact R.o | exact R _ (by decide) | assumption)) (by first | assumption | omega) (by first | assumption | omega) ?_
            rw [e14]
            refine pc_V (ci := 4) (As := [_]) X Y d_M_about_67 (c_M_136 hG) (i_M_many hG) (v_M_many hG) (fun r h => by rw [hG.2] at h; cases h; rfl) rfl rfl (Nat.le_of_ble_eq_true rfl) (by rw [hR]; exact ⟨by decide, by decide⟩) (by decide) (by decide) (by rw [hR]; first | decide | (dsimp only [px_rm]; omega)) (by rw [hR]; first | decide | (dsimp only [px_rm]; omega)) (px_rd_of (by first | exact R.o | assumption)) (t_M_many A ?_)
            exact pg_iret X Y d_M_about_70 rfl (by decide) (Nat.zero_le _) (Nat.zero_le _) (k1 _ S)
          · rw [if_pos c5] at k1
            refine pg_aload_n X d_M_about_51 rfl ?_
            refine pg_getf X (f_M_51 hG) d_M_about_52 (px_rd_of (by first | exact R.o | exact R _ (by decide) | assumption)) rfl ?_
            refine pg_iload_n X d_M_about_55 rfl ?_
            refine pg_ialdN X d_M_about_56 (px_rd_of (by first | exact R.o | exact R _ (by decide) | assumption)) (by first | assumption | omega) (by first | assumption | omega) ?_
            rw [e12]
            refine pg_goto X d_M_about_57 ?_
            exact pg_iret X Y d_M_about_70 rfl (by decide) (Nat.zero_le _) (Nat.zero_le _) (k1 _ S)
        · rw [if_pos c4] at k1
          refine pg_aload_n X d_M_about_37 rfl ?_
          refine pg_getf X (f_M_45 hG) d_M_about_38 (px_rd_of (by first | exact R.o | exact R _ (by decide) | assumption)) rfl ?_
          refine pg_iload_n X d_M_about_41 rfl ?_
          refine pg_ialdN X d_M_about_42 (px_rd_of (by first | exact R.o | exact R _ (by decide) | assumption)) (by first | assumption | omega) (by first | assumption | omega) ?_
          rw [e10]
          refine pg_goto X d_M_about_43 ?_
          exact pg_iret X Y d_M_about_70 rfl (by decide) (Nat.zero_le _) (Nat.zero_le _) (k1 _ S)
      · exact absurd c3 (by decide)
    · refine pg_if_eq X d_M_about_15 (fun c2 => ?_) (fun c2 => ?_)
      · exact bad (fun q => q2 q.2)
      · exact absurd rfl c2
  · refine pg_if_eq X d_M_about_6 (fun c1 => ?_) (fun c1 => ?_)
    · exact bad (fun q => q1 q.1)
    · exact absurd rfl c1
end MP2
