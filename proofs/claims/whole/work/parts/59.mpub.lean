/-! THE MODEL: small public methods -/
section MPU
variable {l : Launch} {G : px_Cg} {π π0 : px_H} {K : Option Value ⊕ String → px_H → Prop} {zm n nt nd wd ht tl : Nat} {μ h w : Nat → Nat → Int32} {x y : Int32}
theorem t_M_thrown (A : GA G) (R : RM zm μ π) (k : K (.inl (some (.int (μ 0 0)))) π) : px_P l G y_M_thrown b_M_thrown 1 (some .int) (px_rm 0 0) false [.ref zm] π K := by
  have hG := A.1
  have hZ := A.2.1
  refine px_P.intro (by decide) hZ (by simp [Value.category]) (Nat.le_of_ble_eq_true rfl) rfl ?_
  intro Γ hl hR X Y hnm hs hbel
  subst hl
  refine pg_aload_n X d_M_thrown_0 rfl ?_
  refine pg_getf X (f_M_91 hG) d_M_thrown_1 (px_rd_of (by first | exact R.o | exact R _ (by decide) | assumption)) rfl ?_
  exact pg_iret X Y d_M_thrown_4 rfl (by decide) (Nat.zero_le _) (Nat.zero_le _) (k)
theorem t_M_room (A : GA G) (S : SM zm μ π0 π) (k1 : 1 ≤ x → x ≤ 16 → ∀ π1, SM zm (up2 (up2 μ 0 0 0) 0 6 x) π0 π1 → K (.inl (some (.int (μ 0 6)))) π1) (k0 : ¬ (1 ≤ x ∧ x ≤ 16) → ∀ π1, SM zm (up2 μ 0 0 1) π0 π1 → K (.inl (some (.int 0))) π1) :
    px_P l G y_M_room b_M_room 3 (some .int) (px_rm 1 23) true [.ref zm, .int x] π K := by
  have hG := A.1
  have hZ := A.2.1
  refine px_P.intro (by decide) hZ (by simp [Value.category]) (Nat.le_of_ble_eq_true rfl) rfl ?_
  intro Γ hl hR X Y hnm hs hbel
  subst hl
  refine pg_w ?_
  have R := S.1
  refine pg_aload_n X d_M_room_0 rfl ?_
  refine pg_iload_n X d_M_room_1 rfl ?_
  refine pg_iconst X (1) d_M_room_2 (by decide) ?_
  refine pg_bipush X (16) d_M_room_3 (by decide) ?_
  refine pc_S (As := [_, _, _]) X Y d_M_room_5 (c_M_94 hG) (s_M_within hG) rfl rfl (Nat.le_of_ble_eq_true rfl) (by rw [hR]; exact ⟨by decide, by decide⟩) (by decide) (by decide) (by rw [hR]; first | decide | (dsimp only [px_rm]; omega)) (by rw [hR]; first | decide | (dsimp only [px_rm]; omega)) (t_M_within A (fun q1 => ?_) (fun q1 => ?_))
  · refine pg_iconst X (1) d_M_room_8 (by decide) ?_
    refine pg_iconst X (1) d_M_room_9 (by decide) ?_
    refine pc_V (ci := 4) (As := [_, _, _]) X Y d_M_room_10 (c_M_105 hG) (i_M_goes hG) (v_M_goes hG) (fun r h => by rw [hG.2] at h; cases h; rfl) rfl rfl (Nat.le_of_ble_eq_true rfl) (by rw [hR]; exact ⟨by decide, by decide⟩) (by decide) (by decide) (by rw [hR]; first | decide | (dsimp only [px_rm]; omega)) (by rw [hR]; first | decide | (dsimp only [px_rm]; omega)) (px_rd_of (by first | exact R.o | assumption)) (t_M_goes A S (fun _ π1 S => ?_) (fun q2 => absurd ⟨by decide, by decide, by decide⟩ q2))
    refine pg_if_ne X d_M_room_13 (fun c3 => ?_) (fun c3 => ?_)
    · have R := S.1
      have e : up2 μ 0 0 0 0 6 = μ 0 6 := up2_n (by decide)
      refine pg_aload_n X d_M_room_18 rfl ?_
      refine pg_getf X (f_M_29 hG) d_M_room_19 (px_rd_of (by first | exact R.o | exact R _ (by decide) | assumption)) rfl ?_
      refine pg_istore2 X d_M_room_22 ?_
      refine pg_aload_n X d_M_room_23 rfl ?_
      refine pg_iload_n X d_M_room_24 rfl ?_
      refine pm_put X S (j := 6) (p := 12) (f_M_29 hG) (ct_M hG) (nf_M_room hG) rfl (fun _ => rfl) rfl d_M_room_25 (fun π1 S => ?_)
      have R := S.1
      refine pg_iload_n X d_M_room_28 rfl ?_
      rw [e]
      exact pg_iret X Y d_M_room_29 rfl (by decide) (Nat.zero_le _) (Nat.zero_le _) (k1 q1.1 q1.2 _ S)
    · exact absurd c3 (by decide)
  · refine pg_iconst X (1) d_M_room_8 (by decide) ?_
    refine pg_iconst X (1) d_M_room_9 (by decide) ?_
    refine pc_V (ci := 4) (As := [_, _, _]) X Y d_M_room_10 (c_M_105 hG) (i_M_goes hG) (v_M_goes hG) (fun r h => by rw [hG.2] at h; cases h; rfl) rfl rfl (Nat.le_of_ble_eq_true rfl) (by rw [hR]; exact ⟨by decide, by decide⟩) (by decide) (by decide) (by rw [hR]; first | decide | (dsimp only [px_rm]; omega)) (by rw [hR]; first | decide | (dsimp only [px_rm]; omega)) (px_rd_of (by first | exact R.o | assumption)) (t_M_goes A S (fun q2 => absurd rfl q2.1) (fun q2 π1 S1 => ?_))
    refine pg_if_ne X d_M_room_13 (fun c3 => ?_) (fun c3 => ?_)
    · exact absurd rfl c3
    refine pg_iconst X (0) d_M_room_16 (by decide) ?_
    exact pg_iret X Y d_M_room_17 rfl (by decide) (Nat.zero_le _) (Nat.zero_le _) (k0 q1 _ S1)
theorem t_M_patience (A : GA G) (S : SM zm μ π0 π) (k1 : 1 ≤ x → x ≤ 6 → ∀ π1, SM zm (up2 (up2 μ 0 0 0) 0 7 x) π0 π1 → K (.inl (some (.int (μ 0 7)))) π1) (k0 : ¬ (1 ≤ x ∧ x ≤ 6) → ∀ π1, SM zm (up2 μ 0 0 1) π0 π1 → K (.inl (some (.int 0))) π1) :
    px_P l G y_M_patience b_M_patience 3 (some .int) (px_rm 1 23) true [.ref zm, .int x] π K := by
  have hG := A.1
  have hZ := A.2.1
  refine px_P.intro (by decide) hZ (by simp [Value.category]) (Nat.le_of_ble_eq_true rfl) rfl ?_
  intro Γ hl hR X Y hnm hs hbel
  subst hl
  refine pg_w ?_
  have R := S.1
  refine pg_aload_n X d_M_patience_0 rfl ?_
  refine pg_iload_n X d_M_patience_1 rfl ?_
  refine pg_iconst X (1) d_M_patience_2 (by decide) ?_
  refine pg_bipush X (6) d_M_patience_3 (by decide) ?_
  refine pc_S (As := [_, _, _]) X Y d_M_patience_5 (c_M_94 hG) (s_M_within hG) rfl rfl (Nat.le_of_ble_eq_true rfl) (by rw [hR]; exact ⟨by decide, by decide⟩) (by decide) (by decide) (by rw [hR]; first | decide | (dsimp only [px_rm]; omega)) (by rw [hR]; first | decide | (dsimp only [px_rm]; omega)) (t_M_within A (fun q1 => ?_) (fun q1 => ?_))
  · refine pg_iconst X (1) d_M_patience_8 (by decide) ?_
    refine pg_iconst X (1) d_M_patience_9 (by decide) ?_
    refine pc_V (ci := 4) (As := [_, _, _]) X Y d_M_patience_10 (c_M_105 hG) (i_M_goes hG) (v_M_goes hG) (fun r h => by rw [hG.2] at h; cases h; rfl) rfl rfl (Nat.le_of_ble_eq_true rfl) (by rw [hR]; exact ⟨by decide, by decide⟩) (by decide) (by decide) (by rw [hR]; first | decide | (dsimp only [px_rm]; omega)) (by rw [hR]; first | decide | (dsimp only [px_rm]; omega)) (px_rd_of (by first | exact R.o | assumption)) (t_M_goes A S (fun _ π1 S => ?_) (fun q2 => absurd ⟨by decide, by decide, by decide⟩ q2))
    refine pg_if_ne X d_M_patience_13 (fun c3 => ?_) (fun c3 => ?_)
    · have R := S.1
      have e : up2 μ 0 0 0 0 7 = μ 0 7 := up2_n (by decide)
      refine pg_aload_n X d_M_patience_18 rfl ?_
      refine pg_getf X (f_M_33 hG) d_M_patience_19 (px_rd_of (by first | exact R.o | exact R _ (by decide) | assumption)) rfl ?_
      refine pg_istore2 X d_M_patience_22 ?_
      refine pg_aload_n X d_M_patience_23 rfl ?_
      refine pg_iload_n X d_M_patience_24 rfl ?_
      refine pm_put X S (j := 7) (p := 13) (f_M_33 hG) (ct_M hG) (nf_M_patience hG) rfl (fun _ => rfl) rfl d_M_patience_25 (fun π1 S => ?_)
      have R := S.1
      refine pg_iload_n X d_M_patience_28 rfl ?_
      rw [e]
      exact pg_iret X Y d_M_patience_29 rfl (by decide) (Nat.zero_le _) (Nat.zero_le _) (k1 q1.1 q1.2 _ S)
    · exact absurd c3 (by decide)
  · refine pg_iconst X (1) d_M_patience_8 (by decide) ?_
    refine pg_iconst X (1) d_M_patience_9 (by decide) ?_
    refine pc_V (ci := 4) (As := [_, _, _]) X Y d_M_patience_10 (c_M_105 hG) (i_M_goes hG) (v_M_goes hG) (fun r h => by rw [hG.2] at h; cases h; rfl) rfl rfl (Nat.le_of_ble_eq_true rfl) (by rw [hR]; exact ⟨by decide, by decide⟩) (by decide) (by decide) (by rw [hR]; first | decide | (dsimp only [px_rm]; omega)) (by rw [hR]; first | decide | (dsimp only [px_rm]; omega)) (px_rd_of (by first | exact R.o | assumption)) (t_M_goes A S (fun q2 => absurd rfl q2.1) (fun q2 π1 S1 => ?_))
    refine pg_if_ne X d_M_patience_13 (fun c3 => ?_) (fun c3 => ?_)
    · exact absurd rfl c3
    refine pg_iconst X (0) d_M_patience_16 (by decide) ?_
    exact pg_iret X Y d_M_patience_17 rfl (by decide) (Nat.zero_le _) (Nat.zero_le _) (k0 q1 _ S1)
theorem m_12 {a c : Nat} : (12 : Int32) * nI c + nI a = nI (12 * c + a) := by rw [show (12 : Int32) = nI 12 from rfl, pk_mul, nI_add]
theorem t_M_crowd (A : GA G) (S : SM zm μ π0 π) (h1 : μ 0 1 = nI wd) (h2 : μ 0 2 = nI ht) (hw : wd ≤ 12) (hh : ht ≤ 12) (h8 : μ 0 8 = nI tl) (htl : tl ≤ 16) (k1 : ∀ a c, a < wd → c < ht → x = nI a → y = nI c → ∀ π1, SM zm (up2 μ 0 0 0) π0 π1 → K (.inl (some (.int (nI (cn (fun v => μ 10 v = 1 ∧ μ 11 v = nI (12 * c + a)) tl))))) π1) (k0 : ¬ isXY wd ht x y → ∀ π1, SM zm (up2 μ 0 0 1) π0 π1 → K (.inl (some (.int 0))) π1) :
    px_P l G y_M_crowd b_M_crowd 3 (some .int) (px_rm 2 44) true [.ref zm, .int x, .int y] π K := by
  have hG := A.1
  have hZ := A.2.1
  refine px_P.intro (by decide) hZ (by simp [Value.category]) (Nat.le_of_ble_eq_true rfl) rfl ?_
  intro Γ hl hR X Y hnm hs hbel
  subst hl
  refine pg_w ?_
  have R := S.1
  refine pg_aload_n X d_M_crowd_0 rfl ?_
  refine pg_aload_n X d_M_crowd_1 rfl ?_
  refine pg_iload_n X d_M_crowd_2 rfl ?_
  refine pg_iload_n X d_M_crowd_3 rfl ?_
  refine pc_V (ci := 4) (As := [_, _]) X Y d_M_crowd_4 (c_M_101 hG) (i_M_isCell hG) (v_M_isCell hG) (fun r h => by rw [hG.2] at h; cases h; rfl) rfl rfl (Nat.le_of_ble_eq_true rfl) (by rw [hR]; exact ⟨by decide, by decide⟩) (by decide) (by decide) (by rw [hR]; first | decide | (dsimp only [px_rm]; omega)) (by rw [hR]; first | decide | (dsimp only [px_rm]; omega)) (px_rd_of (by first | exact R.o | assumption)) (t_M_isCell A R h1 h2 hw hh (fun q1 => ?_) (fun q1 => ?_))
  · refine pg_iconst X (1) d_M_crowd_7 (by decide) ?_
    refine pg_iconst X (1) d_M_crowd_8 (by decide) ?_
    refine pc_V (ci := 4) (As := [_, _, _]) X Y d_M_crowd_9 (c_M_105 hG) (i_M_goes hG) (v_M_goes hG) (fun r h => by rw [hG.2] at h; cases h; rfl) rfl rfl (Nat.le_of_ble_eq_true rfl) (by rw [hR]; exact ⟨by decide, by decide⟩) (by decide) (by decide) (by rw [hR]; first | decide | (dsimp only [px_rm]; omega)) (by rw [hR]; first | decide | (dsimp only [px_rm]; omega)) (px_rd_of (by first | exact R.o | assumption)) (t_M_goes A S (fun _ π1 S => ?_) (fun q2 => absurd ⟨by decide, by decide, by decide⟩ q2))
    obtain ⟨a, c, ha, hc, ea, eb⟩ := q1
    have k1 := k1 a c ha hc ea eb
    refine pg_if_eq X d_M_crowd_12 (fun c3 => ?_) (fun c3 => ?_)
    · exact absurd c3 (by decide)
    have R := S.1
    rw [ea, eb]
    refine pg_aload_n X d_M_crowd_15 rfl ?_
    refine pg_bipush X (12) d_M_crowd_16 (by decide) ?_
    refine pg_iload_n X d_M_crowd_18 rfl ?_
    refine pg_imul X d_M_crowd_19 ?_
    refine pg_iload_n X d_M_crowd_20 rfl ?_
    refine pg_iadd X d_M_crowd_21 ?_
    rw [m_12]
    refine pc_V (ci := 4) (As := [_]) X Y d_M_crowd_22 (c_M_109 hG) (i_M_crowdOf hG) (v_M_crowdOf hG) (fun r h => by rw [hG.2] at h; cases h; rfl) rfl rfl (Nat.le_of_ble_eq_true rfl) (by rw [hR]; exact ⟨by decide, by decide⟩) (by decide) (by decide) (by rw [hR]; first | decide | (dsimp only [px_rm]; omega)) (by rw [hR]; first | decide | (dsimp only [px_rm]; omega)) (px_rd_of (by first | exact R.o | assumption)) (t_M_crowdOf A R (by rw [up2_n (by decide)]; exact h8) htl ?_)
    refine pg_goto X d_M_crowd_25 ?_
    exact pg_iret X Y d_M_crowd_29 rfl (by decide) (Nat.zero_le _) (Nat.zero_le _) (k1 _ S)
  · refine pg_iconst X (1) d_M_crowd_7 (by decide) ?_
    refine pg_iconst X (1) d_M_crowd_8 (by decide) ?_
    refine pc_V (ci := 4) (As := [_, _, _]) X Y d_M_crowd_9 (c_M_105 hG) (i_M_goes hG) (v_M_goes hG) (fun r h => by rw [hG.2] at h; cases h; rfl) rfl rfl (Nat.le_of_ble_eq_true rfl) (by rw [hR]; exact ⟨by decide, by decide⟩) (by decide) (by decide) (by rw [hR]; first | decide | (dsimp only [px_rm]; omega)) (by rw [hR]; first | decide | (dsimp only [px_rm]; omega)) (px_rd_of (by first | exact R.o | assumption)) (t_M_goes A S (fun q2 => absurd rfl q2.1) (fun q2 π1 S1 => ?_))
    refine pg_if_eq X d_M_crowd_12 (fun c3 => ?_) (fun c3 => ?_)
    · refine pg_iconst X (0) d_M_crowd_28 (by decide) ?_
      exact pg_iret X Y d_M_crowd_29 rfl (by decide) (Nat.zero_le _) (Nat.zero_le _) (k0 q1 _ S1)
    · exact absurd rfl c3
theorem t_M_stayed (A : GA G) (S : SM zm μ π0 π) (h1 : μ 0 1 = nI wd) (h2 : μ 0 2 = nI ht) (hw : wd ≤ 12) (hh : ht ≤ 12) (k1 : ∀ a c, a < wd → c < ht → x = nI a → y = nI c → ∀ π1, SM zm (up2 μ 0 0 0) π0 π1 → K (.inl (some (.int (μ 16 (12 * c + a))))) π1) (k0 : ¬ isXY wd ht x y → ∀ π1, SM zm (up2 μ 0 0 1) π0 π1 → K (.inl (some (.int 0))) π1) :
    px_P l G y_M_stayed b_M_stayed 3 (some .int) (px_rm 2 44) true [.ref zm, .int x, .int y] π K := by
  have hG := A.1
  have hZ := A.2.1
  refine px_P.intro (by decide) hZ (by simp [Value.category]) (Nat.le_of_ble_eq_true rfl) rfl ?_
  intro Γ hl hR X Y hnm hs hbel
  subst hl
  refine pg_w ?_
  have R := S.1
  refine pg_aload_n X d_M_stayed_0 rfl ?_
  refine pg_aload_n X d_M_stayed_1 rfl ?_
  refine pg_iload_n X d_M_stayed_2 rfl ?_
  refine pg_iload_n X d_M_stayed_3 rfl ?_
  refine pc_V (ci := 4) (As := [_, _]) X Y d_M_stayed_4 (c_M_101 hG) (i_M_isCell hG) (v_M_isCell hG) (fun r h => by rw [hG.2] at h; cases h; rfl) rfl rfl (Nat.le_of_ble_eq_true rfl) (by rw [hR]; exact ⟨by decide, by decide⟩) (by decide) (by decide) (by rw [hR]; first | decide | (dsimp only [px_rm]; omega)) (by rw [hR]; first | decide | (dsimp only [px_rm]; omega)) (px_rd_of (by first | exact R.o | assumption)) (t_M_isCell A R h1 h2 hw hh (fun q1 => ?_) (fun q1 => ?_))
  · refine pg_iconst X (1) d_M_stayed_7 (by decide) ?_
    refine pg_iconst X (1) d_M_stayed_8 (by decide) ?_
    refine pc_V (ci := 4) (As := [_, _, _]) X Y d_M_stayed_9 (c_M_105 hG) (i_M_goes hG) (v_M_goes hG) (fun r h => by rw [hG.2] at h; cases h; rfl) rfl rfl (Nat.le_of_ble_eq_true rfl) (by rw [hR]; exact ⟨by decide, by decide⟩) (by decide) (by decide) (by rw [hR]; first | decide | (dsimp only [px_rm]; omega)) (by rw [hR]; first | decide | (dsimp only [px_rm]; omega)) (px_rd_of (by first | exact R.o | assumption)) (t_M_goes A S (fun _ π1 S => ?_) (fun q2 => absurd ⟨by decide, by decide, by decide⟩ q2))
    obtain ⟨a, c, ha, hc, ea, eb⟩ := q1
    have k1 := k1 a c ha hc ea eb
    refine pg_if_eq X d_M_stayed_12 (fun c3 => ?_) (fun c3 => ?_)
    · exact absurd c3 (by decide)
    have R := S.1
    rw [ea, eb]
    refine pg_aload_n X d_M_stayed_15 rfl ?_
    refine pg_getf X (f_M_63 hG) d_M_stayed_16 (px_rd_of (by first | exact R.o | exact R _ (by decide) | assumption)) rfl ?_
    refine pg_bipush X (12) d_M_stayed_19 (by decide) ?_
    refine pg_iload_n X d_M_stayed_21 rfl ?_
    refine pg_imul X d_M_stayed_22 ?_
    refine pg_iload_n X d_M_stayed_23 rfl ?_
    refine pg_iadd X d_M_stayed_24 ?_
    rw [m_12]
    refine pg_ialdN X d_M_stayed_25 (px_rd_of (by first | exact R.o | exact R _ (by decide) | assumption)) (by first | assumption | omega) (by first | assumption | omega) ?_
    refine pg_goto X d_M_stayed_26 ?_
    exact pg_iret X Y d_M_stayed_30 rfl (by decide) (Nat.zero_le _) (Nat.zero_le _) (k1 _ S)
  · refine pg_iconst X (1) d_M_stayed_7 (by decide) ?_
    refine pg_iconst X (1) d_M_stayed_8 (by decide) ?_
    refine pc_V (ci := 4) (As := [_, _, _]) X Y d_M_stayed_9 (c_M_105 hG) (i_M_goes hG) (v_M_goes hG) (fun r h => by rw [hG.2] at h; cases h; rfl) rfl rfl (Nat.le_of_ble_eq_true rfl) (by rw [hR]; exact ⟨by decide, by decide⟩) (by decide) (by decide) (by rw [hR]; first | decide | (dsimp only [px_rm]; omega)) (by rw [hR]; first | decide | (dsimp only [px_rm]; omega)) (px_rd_of (by first | exact R.o | assumption)) (t_M_goes A S (fun q2 => absurd rfl q2.1) (fun q2 π1 S1 => ?_))
    refine pg_if_eq X d_M_stayed_12 (fun c3 => ?_) (fun c3 => ?_)
    · refine pg_iconst X (0) d_M_stayed_29 (by decide) ?_
      exact pg_iret X Y d_M_stayed_30 rfl (by decide) (Nat.zero_le _) (Nat.zero_le _) (k0 q1 _ S1)
    · exact absurd rfl c3
theorem t_M_through (A : GA G) (S : SM zm μ π0 π) (h5 : μ 0 5 = nI nd) (hnd : nd ≤ 4) (k1 : ∀ d, d < nd → x = nI d → ∀ π1, SM zm (up2 μ 0 0 0) π0 π1 → K (.inl (some (.int (if y = 0 then μ 19 d else μ 18 d)))) π1) (k0 : (¬ ∃ d, d < nd ∧ x = nI d) → ∀ π1, SM zm (up2 μ 0 0 1) π0 π1 → K (.inl (some (.int 0))) π1) :
    px_P l G y_M_through b_M_through 3 (some .int) (px_rm 1 23) true [.ref zm, .int x, .int y] π K := by
  have hG := A.1
  have hZ := A.2.1
  refine px_P.intro (by decide) hZ (by simp [Value.category]) (Nat.le_of_ble_eq_true rfl) rfl ?_
  intro Γ hl hR X Y hnm hs hbel
  subst hl
  refine pg_w ?_
  have R := S.1
  refine pg_aload_n X d_M_through_0 rfl ?_
  refine pg_iload_n X d_M_through_1 rfl ?_
  refine pg_iconst X (0) d_M_through_2 (by decide) ?_
  refine pg_aload_n X d_M_through_3 rfl ?_
  refine pg_getf X (f_M_116 hG) d_M_through_4 (px_rd_of (by first | exact R.o | exact R _ (by decide) | assumption)) rfl ?_
  refine pg_iconst X (1) d_M_through_7 (by decide) ?_
  refine pg_isub X d_M_through_8 ?_
  rw [h5]
  refine pc_S (As := [_, _, _]) X Y d_M_through_9 (c_M_94 hG) (s_M_within hG) rfl rfl (Nat.le_of_ble_eq_true rfl) (by rw [hR]; exact ⟨by decide, by decide⟩) (by decide) (by decide) (by rw [hR]; first | decide | (dsimp only [px_rm]; omega)) (by rw [hR]; first | decide | (dsimp only [px_rm]; omega)) (t_M_within A (fun q1 => ?_) (fun q1 => ?_))
  · obtain ⟨d, hd, ed⟩ := (in_rng (by omega)).mp q1
    have k1 := k1 d hd ed
    refine pg_iconst X (1) d_M_through_12 (by decide) ?_
    refine pg_iconst X (1) d_M_through_13 (by decide) ?_
    refine pc_V (ci := 4) (As := [_, _, _]) X Y d_M_through_14 (c_M_105 hG) (i_M_goes hG) (v_M_goes hG) (fun r h => by rw [hG.2] at h; cases h; rfl) rfl rfl (Nat.le_of_ble_eq_true rfl) (by rw [hR]; exact ⟨by decide, by decide⟩) (by decide) (by decide) (by rw [hR]; first | decide | (dsimp only [px_rm]; omega)) (by rw [hR]; first | decide | (dsimp only [px_rm]; omega)) (px_rd_of (by first | exact R.o | assumption)) (t_M_goes A S (fun _ π1 S => ?_) (fun q2 => absurd ⟨by decide, by decide, by decide⟩ q2))
    refine pg_if_ne X d_M_through_17 (fun c3 => ?_) (fun c3 => ?_)
    · have R := S.1
      rw [ed]
      refine pg_iload_n X d_M_through_22 rfl ?_
      refine pg_if_eq X d_M_through_23 (fun c4 => ?_) (fun c4 => ?_)
      · rw [if_pos c4] at k1
        refine pg_aload_n X d_M_through_35 rfl ?_
        refine pg_getf X (f_M_72 hG) d_M_through_36 (px_rd_of (by first | exact R.o | exact R _ (by decide) | assumption)) rfl ?_
        refine pg_iload_n X d_M_through_39 rfl ?_
        refine pg_ialdN X d_M_through_40 (px_rd_of (by first | exact R.o | exact R _ (by decide) | assumption)) (by first | assumption | omega) (by first | assumption | omega) ?_
        exact pg_iret X Y d_M_through_41 rfl (by decide) (Nat.zero_le _) (Nat.zero_le _) (k1 _ S)
      · rw [if_neg c4] at k1
        refine pg_aload_n X d_M_through_26 rfl ?_
        refine pg_getf X (f_M_69 hG) d_M_through_27 (px_rd_of (by first | exact R.o | exact R _ (by decide) | assumption)) rfl ?_
        refine pg_iload_n X d_M_through_30 rfl ?_
        refine pg_ialdN X d_M_through_31 (px_rd_of (by first | exact R.o | exact R _ (by decide) | assumption)) (by first | assumption | omega) (by first | assumption | omega) ?_
        refine pg_goto X d_M_through_32 ?_
        exact pg_iret X Y d_M_through_41 rfl (by decide) (Nat.zero_le _) (Nat.zero_le _) (k1 _ S)
    · exact absurd c3 (by decide)
  · refine pg_iconst X (1) d_M_through_12 (by decide) ?_
    refine pg_iconst X (1) d_M_through_13 (by decide) ?_
    refine pc_V (ci := 4) (As := [_, _, _]) X Y d_M_through_14 (c_M_105 hG) (i_M_goes hG) (v_M_goes hG) (fun r h => by rw [hG.2] at h; cases h; rfl) rfl rfl (Nat.le_of_ble_eq_true rfl) (by rw [hR]; exact ⟨by decide, by decide⟩) (by decide) (by decide) (by rw [hR]; first | decide | (dsimp only [px_rm]; omega)) (by rw [hR]; first | decide | (dsimp only [px_rm]; omega)) (px_rd_of (by first | exact R.o | assumption)) (t_M_goes A S (fun q2 => absurd rfl q2.1) (fun q2 π1 S1 => ?_))
    refine pg_if_ne X d_M_through_17 (fun c3 => ?_) (fun c3 => ?_)
    · exact absurd rfl c3
    refine pg_iconst X (0) d_M_through_20 (by decide) ?_
    exact pg_iret X Y d_M_through_21 rfl (by decide) (Nat.zero_le _) (Nat.zero_le _) (k0 (fun q => q1 ((in_rng (by omega)).mpr q)) _ S1)
theorem t_M_seen (A : GA G) (S : SM zm μ π0 π) (h4 : μ 0 4 = nI nt) (hnt : nt ≤ 6) (h8 : μ 0 8 = nI tl) (htl : tl ≤ 16) (k1 : ∀ t, t < nt → x = nI t → ∀ π1, SM zm (up2 μ 0 0 0) π0 π1 → K (.inl (some (.int (sno (μ 14) (nI t) tl)))) π1) (k0 : (¬ ∃ t, t < nt ∧ x = nI t) → ∀ π1, SM zm (up2 μ 0 0 1) π0 π1 → K (.inl (some (.int 0))) π1) :
    px_P l G y_M_seen b_M_seen 2 (some .int) (px_rm 1 23) true [.ref zm, .int x] π K := by
  have hG := A.1
  have hZ := A.2.1
  refine px_P.intro (by decide) hZ (by simp [Value.category]) (Nat.le_of_ble_eq_true rfl) rfl ?_
  intro Γ hl hR X Y hnm hs hbel
  subst hl
  refine pg_w ?_
  have R := S.1
  refine pg_aload_n X d_M_seen_0 rfl ?_
  refine pg_iload_n X d_M_seen_1 rfl ?_
  refine pg_iconst X (0) d_M_seen_2 (by decide) ?_
  refine pg_aload_n X d_M_seen_3 rfl ?_
  refine pg_getf X (f_M_113 hG) d_M_seen_4 (px_rd_of (by first | exact R.o | exact R _ (by decide) | assumption)) rfl ?_
  refine pg_iconst X (1) d_M_seen_7 (by decide) ?_
  refine pg_isub X d_M_seen_8 ?_
  rw [h4]
  refine pc_S (As := [_, _, _]) X Y d_M_seen_9 (c_M_94 hG) (s_M_within hG) rfl rfl (Nat.le_of_ble_eq_true rfl) (by rw [hR]; exact ⟨by decide, by decide⟩) (by decide) (by decide) (by rw [hR]; first | decide | (dsimp only [px_rm]; omega)) (by rw [hR]; first | decide | (dsimp only [px_rm]; omega)) (t_M_within A (fun q1 => ?_) (fun q1 => ?_))
  · obtain ⟨t, ht, et⟩ := (in_rng (by omega)).mp q1
    have k1 := k1 t ht et
    refine pg_iconst X (1) d_M_seen_12 (by decide) ?_
    refine pg_iconst X (1) d_M_seen_13 (by decide) ?_
    refine pc_V (ci := 4) (As := [_, _, _]) X Y d_M_seen_14 (c_M_105 hG) (i_M_goes hG) (v_M_goes hG) (fun r h => by rw [hG.2] at h; cases h; rfl) rfl rfl (Nat.le_of_ble_eq_true rfl) (by rw [hR]; exact ⟨by decide, by decide⟩) (by decide) (by decide) (by rw [hR]; first | decide | (dsimp only [px_rm]; omega)) (by rw [hR]; first | decide | (dsimp only [px_rm]; omega)) (px_rd_of (by first | exact R.o | assumption)) (t_M_goes A S (fun _ π1 S => ?_) (fun q2 => absurd ⟨by decide, by decide, by decide⟩ q2))
    refine pg_if_eq X d_M_seen_17 (fun c3 => ?_) (fun c3 => ?_)
    · exact absurd c3 (by decide)
    have R := S.1
    rw [et]
    refine pg_aload_n X d_M_seen_20 rfl ?_
    refine pg_iload_n X d_M_seen_21 rfl ?_
    refine pc_V (ci := 4) (As := [_]) X Y d_M_seen_22 (c_M_177 hG) (i_M_seenOf hG) (v_M_seenOf hG) (fun r h => by rw [hG.2] at h; cases h; rfl) rfl rfl (Nat.le_of_ble_eq_true rfl) (by rw [hR]; exact ⟨by decide, by decide⟩) (by decide) (by decide) (by rw [hR]; first | decide | (dsimp only [px_rm]; omega)) (by rw [hR]; first | decide | (dsimp only [px_rm]; omega)) (px_rd_of (by first | exact R.o | assumption)) (t_M_seenOf A R (by rw [up2_n (by decide)]; exact h8) htl ?_)
    refine pg_goto X d_M_seen_25 ?_
    exact pg_iret X Y d_M_seen_29 rfl (by decide) (Nat.zero_le _) (Nat.zero_le _) (k1 _ S)
  · refine pg_iconst X (1) d_M_seen_12 (by decide) ?_
    refine pg_iconst X (1) d_M_seen_13 (by decide) ?_
    refine pc_V (ci := 4) (As := [_, _, _]) X Y d_M_seen_14 (c_M_105 hG) (i_M_goes hG) (v_M_goes hG) (fun r h => by rw [hG.2] at h; cases h; rfl) rfl rfl (Nat.le_of_ble_eq_true rfl) (by rw [hR]; exact ⟨by decide, by decide⟩) (by decide) (by decide) (by rw [hR]; first | decide | (dsimp only [px_rm]; omega)) (by rw [hR]; first | decide | (dsimp only [px_rm]; omega)) (px_rd_of (by first | exact R.o | assumption)) (t_M_goes A S (fun q2 => absurd rfl q2.1) (fun q2 π1 S1 => ?_))
    refine pg_if_eq X d_M_seen_17 (fun c3 => ?_) (fun c3 => ?_)
    · refine pg_iconst X (0) d_M_seen_28 (by decide) ?_
      exact pg_iret X Y d_M_seen_29 rfl (by decide) (Nat.zero_le _) (Nat.zero_le _) (k0 (fun q => q1 ((in_rng (by omega)).mpr q)) _ S1)
    · exact absurd rfl c3
theorem t_M_interest (A : GA G) (S : SM zm μ π0 π) (h4 : μ 0 4 = nI nt) (hnt : nt ≤ 6) (k1 : ∀ t, t < nt → x = nI t → ∀ π1, SM zm (up2 μ 0 0 0) π0 π1 → K (.inl (some (.int (μ 3 t)))) π1) (k0 : (¬ ∃ t, t < nt ∧ x = nI t) → ∀ π1, SM zm (up2 μ 0 0 1) π0 π1 → K (.inl (some (.int 0))) π1) :
    px_P l G y_M_interest b_M_interest 2 (some .int) (px_rm 1 23) true [.ref zm, .int x] π K := by
  have hG := A.1
  have hZ := A.2.1
  refine px_P.intro (by decide) hZ (by simp [Value.category]) (Nat.le_of_ble_eq_true rfl) rfl ?_
  intro Γ hl hR X Y hnm hs hbel
  subst hl
  refine pg_w ?_
  have R := S.1
  refine pg_aload_n X d_M_interest_0 rfl ?_
  refine pg_iload_n X d_M_interest_1 rfl ?_
  refine pg_iconst X (0) d_M_interest_2 (by decide) ?_
  refine pg_aload_n X d_M_interest_3 rfl ?_
  refine pg_getf X (f_M_113 hG) d_M_interest_4 (px_rd_of (by first | exact R.o | exact R _ (by decide) | assumption)) rfl ?_
  refine pg_iconst X (1) d_M_interest_7 (by decide) ?_
  refine pg_isub X d_M_interest_8 ?_
  rw [h4]
  refine pc_S (As := [_, _, _]) X Y d_M_interest_9 (c_M_94 hG) (s_M_within hG) rfl rfl (Nat.le_of_ble_eq_true rfl) (by rw [hR]; exact ⟨by decide, by decide⟩) (by decide) (by decide) (by rw [hR]; first | decide | (dsimp only [px_rm]; omega)) (by rw [hR]; first | decide | (dsimp only [px_rm]; omega)) (t_M_within A (fun q1 => ?_) (fun q1 => ?_))
  · obtain ⟨t, ht, et⟩ := (in_rng (by omega)).mp q1
    have k1 := k1 t ht et
    refine pg_iconst X (1) d_M_interest_12 (by decide) ?_
    refine pg_iconst X (1) d_M_interest_13 (by decide) ?_
    refine pc_V (ci := 4) (As := [_, _, _]) X Y d_M_interest_14 (c_M_105 hG) (i_M_goes hG) (v_M_goes hG) (fun r h => by rw [hG.2] at h; cases h; rfl) rfl rfl (Nat.le_of_ble_eq_true rfl) (by rw [hR]; exact ⟨by decide, by decide⟩) (by decide) (by decide) (by rw [hR]; first | decide | (dsimp only [px_rm]; omega)) (by rw [hR]; first | decide | (dsimp only [px_rm]; omega)) (px_rd_of (by first | exact R.o | assumption)) (t_M_goes A S (fun _ π1 S => ?_) (fun q2 => absurd ⟨by decide, by decide, by decide⟩ q2))
    refine pg_if_eq X d_M_interest_17 (fun c3 => ?_) (fun c3 => ?_)
    · exact absurd c3 (by decide)
    have R := S.1
    rw [et]
    refine pg_aload_n X d_M_interest_20 rfl ?_
    refine pg_getf X (f_M_17 hG) d_M_interest_21 (px_rd_of (by first | exact R.o | exact R _ (by decide) | assumption)) rfl ?_
    refine pg_iload_n X d_M_interest_24 rfl ?_
    refine pg_ialdN X d_M_interest_25 (px_rd_of (by first | exact R.o | exact R _ (by decide) | assumption)) (by first | assumption | omega) (by first | assumption | omega) ?_
    refine pg_goto X d_M_interest_26 ?_
    exact pg_iret X Y d_M_interest_30 rfl (by decide) (Nat.zero_le _) (Nat.zero_le _) (k1 _ S)
  · refine pg_iconst X (1) d_M_interest_12 (by decide) ?_
    refine pg_iconst X (1) d_M_interest_13 (by decide) ?_
    refine pc_V (ci := 4) (As := [_, _, _]) X Y d_M_interest_14 (c_M_105 hG) (i_M_goes hG) (v_M_goes hG) (fun r h => by rw [hG.2] at h; cases h; rfl) rfl rfl (Nat.le_of_ble_eq_true rfl) (by rw [hR]; exact ⟨by decide, by decide⟩) (by decide) (by decide) (by rw [hR]; first | decide | (dsimp only [px_rm]; omega)) (by rw [hR]; first | decide | (dsimp only [px_rm]; omega)) (px_rd_of (by first | exact R.o | assumption)) (t_M_goes A S (fun q2 => absurd rfl q2.1) (fun q2 π1 S1 => ?_))
    refine pg_if_eq X d_M_interest_17 (fun c3 => ?_) (fun c3 => ?_)
    · refine pg_iconst X (0) d_M_interest_29 (by decide) ?_
      exact pg_iret X Y d_M_interest_30 rfl (by decide) (Nat.zero_le _) (Nat.zero_le _) (k0 (fun q => q1 ((in_rng (by omega)).mpr q)) _ S1)
    · exact absurd rfl c3
end MPU
