/-! THE MODEL: door, thing, arrives -/
section MP3
variable {l : Launch} {G : px_Cg} {π π0 : px_H} {K : Option Value ⊕ String → px_H → Prop} {zm n nt nd wd ht tl : Nat} {μ h w : Nat → Nat → Int32} {x y s i g : Int32}
theorem t_M_door (A : GA G) (S : SM zm μ π0 π) (h1 : μ 0 1 = nI wd) (h2 : μ 0 2 = nI ht) (hw : wd ≤ 12) (hh : ht ≤ 12) (h5 : μ 0 5 = nI nd) (hnd : nd ≤ 4)
    (k1 : ∀ a c, a < wd → c < ht → x = nI a → y = nI c → nd < 4 → ¬ μ 1 (12 * c + a) = 0 → ∀ π1, SM zm (up2 μ 0 0 0) π0 π1 → K (.inl (some (.int (-1)))) π1)
    (k2 : ∀ a c, a < wd → c < ht → x = nI a → y = nI c → nd < 4 → μ 1 (12 * c + a) = 0 → ∀ π1, SM zm (up2 (up2 (up2 μ 0 0 0) 6 nd (nI (12 * c + a))) 0 5 (nI (nd + 1))) π0 π1 → K (.inl (some (.int (nI nd)))) π1)
    (k0 : ¬ isXY wd ht x y → ∀ π1, SM zm (up2 μ 0 0 1) π0 π1 → K (.inl (some (.int 0))) π1) (k02 : isXY wd ht x y → ¬ nd < 4 → ∀ π1, SM zm (up2 μ 0 0 2) π0 π1 → K (.inl (some (.int 0))) π1) :
    px_P l G y_M_door b_M_door 3 (some .int) (px_rm 2 44) true [.ref zm, .int x, .int y] π K := by
  have hG := A.1
  have hZ := A.2.1
  refine px_P.intro (by decide) hZ (by simp [Value.category]) (Nat.le_of_ble_eq_true rfl) rfl ?_
  intro Γ hl hR X Y hnm hs hbel
  subst hl
  refine pg_w ?_
  have R := S.1
  have refuse : ∀ p r, (p = 0 ∧ ¬ isXY wd ht x y) ∨ (p = 1 ∧ r = 0 ∧ isXY wd ht x y ∧ ¬ nd < 4) → px_G Γ G (px_Q Γ G true K) true 0 0 20 [some (.ref zm), some (.int x), some (.int y)] [.int r, .int p, .ref zm] π := by
    intro p r hp
    refine pg_iconst X (1) d_M_door_20 (by decide) ?_
    rcases hp with ⟨e, q⟩ | ⟨e, e2, q, q9⟩
    · subst e
      refine pc_V (ci := 4) (As := [_, _, _]) X Y d_M_door_21 (c_M_105 hG) (i_M_goes hG) (v_M_goes hG) (fun r h => by rw [hG.2] at h; cases h; rfl) rfl rfl (Nat.le_of_ble_eq_true rfl) (by rw [hR]; exact ⟨by decide, by decide⟩) (by decide) (by decide) (by rw [hR]; first | decide | (dsimp only [px_rm]; omega)) (by rw [hR]; first | decide | (dsimp only [px_rm]; omega)) (px_rd_of (by first | exact R.o | assumption)) (t_M_goes A S (fun q2 => absurd rfl q2.1) (fun q2 π1 S1 => ?_))
      refine pg_if_ne X d_M_door_24 (fun c3 => ?_) (fun c3 => ?_)
      · exact absurd rfl c3
      refine pg_iconst X (0) d_M_door_27 (by decide) ?_
      exact pg_iret X Y d_M_door_28 rfl (by decide) (Nat.zero_le _) (Nat.zero_le _) (k0 q _ S1)
    · subst e
      subst e2
      refine pc_V (ci := 4) (As := [_, _, _]) X Y d_M_door_21 (c_M_105 hG) (i_M_goes hG) (v_M_goes hG) (fun r h => by rw [hG.2] at h; cases h; rfl) rfl rfl (Nat.le_of_ble_eq_true rfl) (by rw [hR]; exact ⟨by decide, by decide⟩) (by decide) (by decide) (by rw [hR]; first | decide | (dsimp only [px_rm]; omega)) (by rw [hR]; first | decide | (dsimp only [px_rm]; omega)) (px_rd_of (by first | exact R.o | assumption)) (t_M_goes A S (fun q2 => absurd rfl q2.2.1) (fun q2 π1 S1 => ?_))
      refine pg_if_ne X d_M_door_24 (fun c3 => ?_) (fun c3 => ?_)
      · exact absurd rfl c3
      refine pg_iconst X (0) d_M_door_27 (by decide) ?_
      exact pg_iret X Y d_M_door_28 rfl (by decide) (Nat.zero_le _) (Nat.zero_le _) (k02 q q9 _ S1)
  refine pg_aload_n X d_M_door_0 rfl ?_
  refine pg_aload_n X d_M_door_1 rfl ?_
  refine pg_iload_n X d_M_door_2 rfl ?_
  refine pg_iload_n X d_M_door_3 rfl ?_
  refine pc_V (ci := 4) (As := [_, _]) X Y d_M_door_4 (c_M_101 hG) (i_M_isCell hG) (v_M_isCell hG) (fun r h => by rw [hG.2] at h; cases h; rfl) rfl rfl (Nat.le_of_ble_eq_true rfl) (by rw [hR]; exact ⟨by decide, by decide⟩) (by decide) (by decide) (by rw [hR]; first | decide | (dsimp only [px_rm]; omega)) (by rw [hR]; first | decide | (dsimp only [px_rm]; omega)) (px_rd_of (by first | exact R.o | assumption)) (t_M_isCell A R h1 h2 hw hh (fun q1 => ?_) (fun q1 => ?_))
  · refine pg_aload_n X d_M_door_7 rfl ?_
    refine pg_getf X (f_M_116 hG) d_M_door_8 (px_rd_of (by first | exact R.o | exact R _ (by decide) | assumption)) rfl ?_
    refine pg_iconst X (4) d_M_door_11 (by decide) ?_
    rw [h5]
    refine pg_icmp_ge X d_M_door_12 (fun c1 => ?_) (fun c1 => ?_)
    · simp (disch := omega) only [Int32.lt_iff_toInt_lt, Int32.le_iff_toInt_le, nI_toInt, px_l0, px_l1, px_l2, px_l3, px_l4, px_l5, px_l6, px_l10, px_l11, px_l12, px_l16, px_l30, px_l100, px_l400] at c1
      refine pg_iconst X (0) d_M_door_19 (by decide) ?_
      exact refuse 1 0 (Or.inr ⟨rfl, rfl, q1, by omega⟩)
    · simp (disch := omega) only [Int32.lt_iff_toInt_lt, Int32.le_iff_toInt_le, nI_toInt, px_l0, px_l1, px_l2, px_l3, px_l4, px_l5, px_l6, px_l10, px_l11, px_l12, px_l16, px_l30, px_l100, px_l400] at c1
      have h4 : nd < 4 := by omega
      refine pg_iconst X (1) d_M_door_15 (by decide) ?_
      refine pg_goto X d_M_door_16 ?_
      refine pg_iconst X (1) d_M_door_20 (by decide) ?_
      refine pc_V (ci := 4) (As := [_, _, _]) X Y d_M_door_21 (c_M_105 hG) (i_M_goes hG) (v_M_goes hG) (fun r h => by rw [hG.2] at h; cases h; rfl) rfl rfl (Nat.le_of_ble_eq_true rfl) (by rw [hR]; exact ⟨by decide, by decide⟩) (by decide) (by decide) (by rw [hR]; first | decide | (dsimp only [px_rm]; omega)) (by rw [hR]; first | decide | (dsimp only [px_rm]; omega)) (px_rd_of (by first | exact R.o | assumption)) (t_M_goes A S (fun _ π1 S => ?_) (fun q2 => absurd ⟨by decide, by decide, by decide⟩ q2))
      obtain ⟨a, c, ha, hc, ea, eb⟩ := q1
      have k1 := k1 a c ha hc ea eb h4
      have k2 := k2 a c ha hc ea eb h4
      refine pg_if_ne X d_M_door_24 (fun c3 => ?_) (fun c3 => ?_)
      · have R := S.1
        rw [ea, eb]
        have e5 : up2 μ 0 0 0 0 5 = nI nd := by rw [up2_n (by decide)]; exact h5
        have e1 : up2 μ 0 0 0 1 (12 * c + a) = μ 1 (12 * c + a) := up2_n (Or.inl (by decide))
        refine pg_aload_n X d_M_door_29 rfl ?_
        refine pg_getf X (f_M_7 hG) d_M_door_30 (px_rd_of (by first | exact R.o | exact R _ (by decide) | assumption)) rfl ?_
        refine pg_bipush X (12) d_M_door_33 (by decide) ?_
        refine pg_iload_n X d_M_door_35 rfl ?_
        refine pg_imul X d_M_door_36 ?_
        refine pg_iload_n X d_M_door_37 rfl ?_
        refine pg_iadd X d_M_door_38 ?_
        rw [m_12]
        refine pg_zaldN X d_M_door_39 (px_rd_of (by first | exact R.o | exact R _ (by decide) | assumption)) (by first | assumption | omega) (by first | assumption | omega) ?_
        rw [e1]
        refine pg_if_eq X d_M_door_40 (fun c4 => ?_) (fun c4 => ?_)
        · refine pg_aload_n X d_M_door_45 rfl ?_
          refine pg_getf X (f_M_26 hG) d_M_door_46 (px_rd_of (by first | exact R.o | exact R _ (by decide) | assumption)) rfl ?_
          refine pg_aload_n X d_M_door_49 rfl ?_
          refine pg_getf X (f_M_116 hG) d_M_door_50 (px_rd_of (by first | exact R.o | exact R _ (by decide) | assumption)) rfl ?_
          rw [e5]
          refine pg_bipush X (12) d_M_door_53 (by decide) ?_
          refine pg_iload_n X d_M_door_55 rfl ?_
          refine pg_imul X d_M_door_56 ?_
          refine pg_iload_n X d_M_door_57 rfl ?_
          refine pg_iadd X d_M_door_58 ?_
          rw [m_12]
          refine pm_ist X S (fun _ => rfl) (by decide) d_M_door_59 (by first | assumption | omega) (by first | assumption | omega) (fun π1 S => ?_)
          have R := S.1
          refine pg_aload_n X d_M_door_60 rfl ?_
          refine pg_dup X d_M_door_61 rfl ?_
          refine pg_getf X (f_M_116 hG) d_M_door_62 (px_rd_of (by first | exact R.o | exact R _ (by decide) | assumption)) rfl ?_
          refine pg_iconst X (1) d_M_door_65 (by decide) ?_
          refine pg_iadd X d_M_door_66 ?_
          have e5b : up2 (up2 μ 0 0 0) 6 nd (nI (12 * c + a)) 0 5 + 1 = nI (nd + 1) := by
            rw [up2_r (by decide), e5]
            exact nI_1 nd
          rw [e5b]
          refine pm_put X S (j := 5) (p := 10) (f_M_116 hG) (ct_M hG) (nf_M_doors hG) rfl (fun _ => rfl) rfl d_M_door_67 (fun π1 S => ?_)
          have R := S.1
          refine pg_aload_n X d_M_door_70 rfl ?_
          refine pg_getf X (f_M_116 hG) d_M_door_71 (px_rd_of (by first | exact R.o | exact R _ (by decide) | assumption)) rfl ?_
          refine pg_iconst X (1) d_M_door_74 (by decide) ?_
          refine pg_isub X d_M_door_75 ?_
          rw [up2_s, nI_m1]
          exact pg_iret X Y d_M_door_76 rfl (by decide) (Nat.zero_le _) (Nat.zero_le _) (k2 c4 _ S)
        · refine pg_iconst X (-1) d_M_door_43 (by decide) ?_
          exact pg_iret X Y d_M_door_44 rfl (by decide) (Nat.zero_le _) (Nat.zero_le _) (k1 c4 _ S)
      · exact absurd c3 (by decide)
  · refine pg_aload_n X d_M_door_7 rfl ?_
    refine pg_getf X (f_M_116 hG) d_M_door_8 (px_rd_of (by first | exact R.o | exact R _ (by decide) | assumption)) rfl ?_
    refine pg_iconst X (4) d_M_door_11 (by decide) ?_
    refine pg_icmp_ge X d_M_door_12 (fun c1 => ?_) (fun c1 => ?_)
    · refine pg_iconst X (0) d_M_door_19 (by decide) ?_
      exact refuse 0 0 (Or.inl ⟨rfl, q1⟩)
    · refine pg_iconst X (1) d_M_door_15 (by decide) ?_
      refine pg_goto X d_M_door_16 ?_
      exact refuse 0 1 (Or.inl ⟨rfl, q1⟩)
theorem t_M_thing (A : GA G) (S : SM zm μ π0 π) (h1 : μ 0 1 = nI wd) (h2 : μ 0 2 = nI ht) (hw : wd ≤ 12) (hh : ht ≤ 12) (h4 : μ 0 4 = nI nt) (hnt : nt ≤ 6)
    (k1 : ∀ a c, a < wd → c < ht → x = nI a → y = nI c → 1 ≤ i ∧ i ≤ 100 ∧ 1 ≤ s ∧ s ≤ 30 → nt < 6 → ¬ μ 1 (12 * c + a) = 0 → ∀ π1, SM zm (up2 μ 0 0 0) π0 π1 → K (.inl (some (.int (-1)))) π1)
    (k2 : ∀ a c, a < wd → c < ht → x = nI a → y = nI c → 1 ≤ i ∧ i ≤ 100 ∧ 1 ≤ s ∧ s ≤ 30 → nt < 6 → μ 1 (12 * c + a) = 0 → ∀ π1, SM zm (up2 (up2 (up2 (up2 (up2 μ 0 0 0) 2 nt (nI (12 * c + a))) 3 nt i) 4 nt s) 0 4 (nI (nt + 1))) π0 π1 → K (.inl (some (.int (nI nt)))) π1)
    (k0 : ¬ isXY wd ht x y → ∀ π1, SM zm (up2 μ 0 0 1) π0 π1 → K (.inl (some (.int 0))) π1) (k02 : isXY wd ht x y → ¬ (1 ≤ i ∧ i ≤ 100 ∧ 1 ≤ s ∧ s ≤ 30) → ∀ π1, SM zm (up2 μ 0 0 2) π0 π1 → K (.inl (some (.int 0))) π1) (k03 : isXY wd ht x y → (1 ≤ i ∧ i ≤ 100 ∧ 1 ≤ s ∧ s ≤ 30) → ¬ nt < 6 → ∀ π1, SM zm (up2 μ 0 0 3) π0 π1 → K (.inl (some (.int 0))) π1) :
    px_P l G y_M_thing b_M_thing 5 (some .int) (px_rm 2 44) true [.ref zm, .int x, .int y, .int i, .int s] π K := by
  have hG := A.1
  have hZ := A.2.1
  refine px_P.intro (by decide) hZ (by simp [Value.category]) (Nat.le_of_ble_eq_true rfl) rfl ?_
  intro Γ hl hR X Y hnm hs hbel
  subst hl
  refine pg_w ?_
  have R := S.1
  have last : ∀ p r, ((p = 0 ∧ ¬ isXY wd ht x y) ∨ (p = 1 ∧ isXY wd ht x y)) → ((r = 0 ∧ ¬ (1 ≤ i ∧ i ≤ 100 ∧ 1 ≤ s ∧ s ≤ 30)) ∨ (r = 1 ∧ 1 ≤ i ∧ i ≤ 100 ∧ 1 ≤ s ∧ s ≤ 30)) → px_G Γ G (px_Q Γ G true K) true 0 0 33 [some (.ref zm), some (.int x), some (.int y), some (.int i), some (.int s)] [.int r, .int p, .ref zm] π := by
    intro p r hp hr
    have goes : ∀ q, ((q = 0 ∧ ¬ nt < 6) ∨ (q = 1 ∧ nt < 6)) → px_G Γ G (px_Q Γ G true K) true 0 0 47 [some (.ref zm), some (.int x), some (.int y), some (.int i), some (.int s)] [.int q, .int r, .int p, .ref zm] π := by
      intro q hq
      rcases hp with ⟨ep, hp⟩ | ⟨ep, hp⟩
      · subst ep
        refine pc_V (ci := 4) (As := [_, _, _]) X Y d_M_thing_47 (c_M_105 hG) (i_M_goes hG) (v_M_goes hG) (fun r h => by rw [hG.2] at h; cases h; rfl) rfl rfl (Nat.le_of_ble_eq_true rfl) (by rw [hR]; exact ⟨by decide, by decide⟩) (by decide) (by decide) (by rw [hR]; first | decide | (dsimp only [px_rm]; omega)) (by rw [hR]; first | decide | (dsimp only [px_rm]; omega)) (px_rd_of (by first | exact R.o | assumption)) (t_M_goes A S (fun q2 => absurd rfl q2.1) (fun q2 π1 S1 => ?_))
        refine pg_if_ne X d_M_thing_50 (fun c3 => ?_) (fun c3 => ?_)
        · exact absurd rfl c3
        refine pg_iconst X (0) d_M_thing_53 (by decide) ?_
        exact pg_iret X Y d_M_thing_54 rfl (by decide) (Nat.zero_le _) (Nat.zero_le _) (k0 hp _ S1)
      rcases hr with ⟨er, hr⟩ | ⟨er, hr⟩
      · subst ep
        subst er
        refine pc_V (ci := 4) (As := [_, _, _]) X Y d_M_thing_47 (c_M_105 hG) (i_M_goes hG) (v_M_goes hG) (fun r h => by rw [hG.2] at h; cases h; rfl) rfl rfl (Nat.le_of_ble_eq_true rfl) (by rw [hR]; exact ⟨by decide, by decide⟩) (by decide) (by decide) (by rw [hR]; first | decide | (dsimp only [px_rm]; omega)) (by rw [hR]; first | decide | (dsimp only [px_rm]; omega)) (px_rd_of (by first | exact R.o | assumption)) (t_M_goes A S (fun q2 => absurd rfl q2.2.1) (fun q2 π1 S1 => ?_))
        refine pg_if_ne X d_M_thing_50 (fun c3 => ?_) (fun c3 => ?_)
        · exact absurd rfl c3
        refine pg_iconst X (0) d_M_thing_53 (by decide) ?_
        exact pg_iret X Y d_M_thing_54 rfl (by decide) (Nat.zero_le _) (Nat.zero_le _) (k02 hp hr _ S1)
      rcases hq with ⟨eq, hq⟩ | ⟨eq, hq⟩
      · subst ep
        subst er
        subst eq
        refine pc_V (ci := 4) (As := [_, _, _]) X Y d_M_thing_47 (c_M_105 hG) (i_M_goes hG) (v_M_goes hG) (fun r h => by rw [hG.2] at h; cases h; rfl) rfl rfl (Nat.le_of_ble_eq_true rfl) (by rw [hR]; exact ⟨by decide, by decide⟩) (by decide) (by decide) (by rw [hR]; first | decide | (dsimp only [px_rm]; omega)) (by rw [hR]; first | decide | (dsimp only [px_rm]; omega)) (px_rd_of (by first | exact R.o | assumption)) (t_M_goes A S (fun q2 => absurd rfl q2.2.2) (fun q2 π1 S1 => ?_))
        refine pg_if_ne X d_M_thing_50 (fun c3 => ?_) (fun c3 => ?_)
        · exact absurd rfl c3
        refine pg_iconst X (0) d_M_thing_53 (by decide) ?_
        exact pg_iret X Y d_M_thing_54 rfl (by decide) (Nat.zero_le _) (Nat.zero_le _) (k03 hp hr hq _ S1)
      subst ep
      subst er
      subst eq
      refine pc_V (ci := 4) (As := [_, _, _]) X Y d_M_thing_47 (c_M_105 hG) (i_M_goes hG) (v_M_goes hG) (fun r h => by rw [hG.2] at h; cases h; rfl) rfl rfl (Nat.le_of_ble_eq_true rfl) (by rw [hR]; exact ⟨by decide, by decide⟩) (by decide) (by decide) (by rw [hR]; first | decide | (dsimp only [px_rm]; omega)) (by rw [hR]; first | decide | (dsimp only [px_rm]; omega)) (px_rd_of (by first | exact R.o | assumption)) (t_M_goes A S (fun _ π1 S => ?_) (fun q2 => absurd ⟨by decide, by decide, by decide⟩ q2))
      obtain ⟨a, c, ha, hc, ea, eb⟩ := hp
      have k1 := k1 a c ha hc ea eb hr hq
      have k2 := k2 a c ha hc ea eb hr hq
      refine pg_if_ne X d_M_thing_50 (fun c3 => ?_) (fun c3 => ?_)
      · have R := S.1
        rw [ea, eb]
        have e4 : up2 μ 0 0 0 0 4 = nI nt := by rw [up2_n (by decide)]; exact h4
        have e1 : up2 μ 0 0 0 1 (12 * c + a) = μ 1 (12 * c + a) := up2_n (Or.inl (by decide))
        refine pg_aload_n X d_M_thing_55 rfl ?_
        refine pg_getf X (f_M_7 hG) d_M_thing_56 (px_rd_of (by first | exact R.o | exact R _ (by decide) | assumption)) rfl ?_
        refine pg_bipush X (12) d_M_thing_59 (by decide) ?_
        refine pg_iload_n X d_M_thing_61 rfl ?_
        refine pg_imul X d_M_thing_62 ?_
        refine pg_iload_n X d_M_thing_63 rfl ?_
        refine pg_iadd X d_M_thing_64 ?_
        rw [m_12]
        refine pg_zaldN X d_M_thing_65 (px_rd_of (by first | exact R.o | exact R _ (by decide) | assumption)) (by first | assumption | omega) (by first | assumption | omega) ?_
        rw [e1]
        refine pg_if_eq X d_M_thing_66 (fun c4 => ?_) (fun c4 => ?_)
        · refine pg_aload_n X d_M_thing_71 rfl ?_
          refine pg_getf X (f_M_13 hG) d_M_thing_72 (px_rd_of (by first | exact R.o | exact R _ (by decide) | assumption)) rfl ?_
          refine pg_aload_n X d_M_thing_75 rfl ?_
          refine pg_getf X (f_M_113 hG) d_M_thing_76 (px_rd_of (by first | exact R.o | exact R _ (by decide) | assumption)) rfl ?_
          rw [e4]
          refine pg_bipush X (12) d_M_thing_79 (by decide) ?_
          refine pg_iload_n X d_M_thing_81 rfl ?_
          refine pg_imul X d_M_thing_82 ?_
          refine pg_iload_n X d_M_thing_83 rfl ?_
          refine pg_iadd X d_M_thing_84 ?_
          rw [m_12]
          refine pm_ist X S (fun _ => rfl) (by decide) d_M_thing_85 (by first | assumption | omega) (by first | assumption | omega) (fun π1 S => ?_)
          have R := S.1
          refine pg_aload_n X d_M_thing_86 rfl ?_
          refine pg_getf X (f_M_17 hG) d_M_thing_87 (px_rd_of (by first | exact R.o | exact R _ (by decide) | assumption)) rfl ?_
          refine pg_aload_n X d_M_thing_90 rfl ?_
          refine pg_getf X (f_M_113 hG) d_M_thing_91 (px_rd_of (by first | exact R.o | exact R _ (by decide) | assumption)) rfl ?_
          have f1 : up2 (up2 μ 0 0 0) 2 nt (nI (12 * c + a)) 0 4 = nI nt := by rw [up2_r (by decide)]; exact e4
          rw [f1]
          refine pg_iload_n X d_M_thing_94 rfl ?_
          refine pm_ist X S (fun _ => rfl) (by decide) d_M_thing_95 (by first | assumption | omega) (by first | assumption | omega) (fun π1 S => ?_)
          have R := S.1
          refine pg_aload_n X d_M_thing_96 rfl ?_
          refine pg_getf X (f_M_20 hG) d_M_thing_97 (px_rd_of (by first | exact R.o | exact R _ (by decide) | assumption)) rfl ?_
          refine pg_aload_n X d_M_thing_100 rfl ?_
          refine pg_getf X (f_M_113 hG) d_M_thing_101 (px_rd_of (by first | exact R.o | exact R _ (by decide) | assumption)) rfl ?_
          have f2 : up2 (up2 (up2 μ 0 0 0) 2 nt (nI (12 * c + a))) 3 nt i 0 4 = nI nt := by rw [up2_r (by decide)]; exact f1
          rw [f2]
          refine pg_iload X d_M_thing_104 rfl ?_
          refine pm_ist X S (fun _ => rfl) (by decide) d_M_thing_106 (by first | assumption | omega) (by first | assumption | omega) (fun π1 S => ?_)
          have R := S.1
          refine pg_aload_n X d_M_thing_107 rfl ?_
          refine pg_dup X d_M_thing_108 rfl ?_
          refine pg_getf X (f_M_113 hG) d_M_thing_109 (px_rd_of (by first | exact R.o | exact R _ (by decide) | assumption)) rfl ?_
          refine pg_iconst X (1) d_M_thing_112 (by decide) ?_
          refine pg_iadd X d_M_thing_113 ?_
          have f3 : up2 (up2 (up2 (up2 μ 0 0 0) 2 nt (nI (12 * c + a))) 3 nt i) 4 nt s 0 4 + 1 = nI (nt + 1) := by
            rw [up2_r (by decide), f2]
            exact nI_1 nt
          rw [f3]
          refine pm_put X S (j := 4) (p := 5) (f_M_113 hG) (ct_M hG) (nf_M_things hG) rfl (fun _ => rfl) rfl d_M_thing_114 (fun π1 S => ?_)
          have R := S.1
          refine pg_aload_n X d_M_thing_117 rfl ?_
          refine pg_getf X (f_M_113 hG) d_M_thing_118 (px_rd_of (by first | exact R.o | exact R _ (by decide) | assumption)) rfl ?_
          refine pg_iconst X (1) d_M_thing_121 (by decide) ?_
          refine pg_isub X d_M_thing_122 ?_
          rw [up2_s, nI_m1]
          exact pg_iret X Y d_M_thing_123 rfl (by decide) (Nat.zero_le _) (Nat.zero_le _) (k2 c4 _ S)
        · refine pg_iconst X (-1) d_M_thing_69 (by decide) ?_
          exact pg_iret X Y d_M_thing_70 rfl (by decide) (Nat.zero_le _) (Nat.zero_le _) (k1 c4 _ S)
      · exact absurd c3 (by decide)
    refine pg_aload_n X d_M_thing_33 rfl ?_
    refine pg_getf X (f_M_113 hG) d_M_thing_34 (px_rd_of (by first | exact R.o | exact R _ (by decide) | assumption)) rfl ?_
    refine pg_bipush X (6) d_M_thing_37 (by decide) ?_
    rw [h4]
    refine pg_icmp_ge X d_M_thing_39 (fun c1 => ?_) (fun c1 => ?_)
    · simp (disch := omega) only [Int32.lt_iff_toInt_lt, Int32.le_iff_toInt_le, nI_toInt, px_l0, px_l1, px_l2, px_l3, px_l4, px_l5, px_l6, px_l10, px_l11, px_l12, px_l16, px_l30, px_l100, px_l400] at c1
      refine pg_iconst X (0) d_M_thing_46 (by decide) ?_
      exact goes 0 (Or.inl ⟨rfl, by omega⟩)
    · simp (disch := omega) only [Int32.lt_iff_toInt_lt, Int32.le_iff_toInt_le, nI_toInt, px_l0, px_l1, px_l2, px_l3, px_l4, px_l5, px_l6, px_l10, px_l11, px_l12, px_l16, px_l30, px_l100, px_l400] at c1
      refine pg_iconst X (1) d_M_thing_42 (by decide) ?_
      refine pg_goto X d_M_thing_43 ?_
      exact goes 1 (Or.inr ⟨rfl, by omega⟩)
  have mid : ∀ p, ((p = 0 ∧ ¬ isXY wd ht x y) ∨ (p = 1 ∧ isXY wd ht x y)) → px_G Γ G (px_Q Γ G true K) true 0 0 7 [some (.ref zm), some (.int x), some (.int y), some (.int i), some (.int s)] [.int p, .ref zm] π := by
    intro p hp
    have no : ¬ (1 ≤ i ∧ i ≤ 100 ∧ 1 ≤ s ∧ s ≤ 30) → px_G Γ G (px_Q Γ G true K) true 0 0 32 [some (.ref zm), some (.int x), some (.int y), some (.int i), some (.int s)] [.int p, .ref zm] π := by
      intro q
      refine pg_iconst X (0) d_M_thing_32 (by decide) ?_
      exact last p 0 hp (Or.inl ⟨rfl, q⟩)
    refine pg_iload_n X d_M_thing_7 rfl ?_
    refine pg_iconst X (1) d_M_thing_8 (by decide) ?_
    refine pg_bipush X (100) d_M_thing_9 (by decide) ?_
    refine pc_S (As := [_, _, _]) X Y d_M_thing_11 (c_M_94 hG) (s_M_within hG) rfl rfl (Nat.le_of_ble_eq_true rfl) (by rw [hR]; exact ⟨by decide, by decide⟩) (by decide) (by decide) (by rw [hR]; first | decide | (dsimp only [px_rm]; omega)) (by rw [hR]; first | decide | (dsimp only [px_rm]; omega)) (t_M_within A (fun q1 => ?_) (fun q1 => ?_))
    · refine pg_if_eq X d_M_thing_14 (fun c1 => ?_) (fun c1 => ?_)
      · exact absurd c1 (by decide)
      refine pg_iload X d_M_thing_17 rfl ?_
      refine pg_iconst X (1) d_M_thing_19 (by decide) ?_
      refine pg_bipush X (30) d_M_thing_20 (by decide) ?_
      refine pc_S (As := [_, _, _]) X Y d_M_thing_22 (c_M_94 hG) (s_M_within hG) rfl rfl (Nat.le_of_ble_eq_true rfl) (by rw [hR]; exact ⟨by decide, by decide⟩) (by decide) (by decide) (by rw [hR]; first | decide | (dsimp only [px_rm]; omega)) (by rw [hR]; first | decide | (dsimp only [px_rm]; omega)) (t_M_within A (fun q2 => ?_) (fun q2 => ?_))
      · refine pg_if_eq X d_M_thing_25 (fun c2 => ?_) (fun c2 => ?_)
        · exact absurd c2 (by decide)
        refine pg_iconst X (1) d_M_thing_28 (by decide) ?_
        refine pg_goto X d_M_thing_29 ?_
        exact last p 1 hp (Or.inr ⟨rfl, q1.1, q1.2, q2.1, q2.2⟩)
      · refine pg_if_eq X d_M_thing_25 (fun c2 => ?_) (fun c2 => ?_)
        · exact no (fun q => q2 ⟨q.2.2.1, q.2.2.2⟩)
        · exact absurd rfl c2
    · refine pg_if_eq X d_M_thing_14 (fun c1 => ?_) (fun c1 => ?_)
      · exact no (fun q => q1 ⟨q.1, q.2.1⟩)
      · exact absurd rfl c1
  refine pg_aload_n X d_M_thing_0 rfl ?_
  refine pg_aload_n X d_M_thing_1 rfl ?_
  refine pg_iload_n X d_M_thing_2 rfl ?_
  refine pg_iload_n X d_M_thing_3 rfl ?_
  refine pc_V (ci := 4) (As := [_, _]) X Y d_M_thing_4 (c_M_101 hG) (i_M_isCell hG) (v_M_isCell hG) (fun r h => by rw [hG.2] at h; cases h; rfl) rfl rfl (Nat.le_of_ble_eq_true rfl) (by rw [hR]; exact ⟨by decide, by decide⟩) (by decide) (by decide) (by rw [hR]; first | decide | (dsimp only [px_rm]; omega)) (by rw [hR]; first | decide | (dsimp only [px_rm]; omega)) (px_rd_of (by first | exact R.o | assumption)) (t_M_isCell A R h1 h2 hw hh (fun q1 => ?_) (fun q1 => ?_))
  · exact mid 1 (Or.inr ⟨rfl, q1⟩)
  · exact mid 0 (Or.inl ⟨rfl, q1⟩)
end MP3
