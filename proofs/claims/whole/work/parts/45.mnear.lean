/-! THE MODEL: nearest, key -/
/-- a goal of the class, or none, in the model's numbers -/
def mgI (x : Int32) : Int32 := if 6 ≤ x then x + 4 else x
theorem mgI_g {g : Nat} (hg : g < 10) : mgI (nI g) = nI (mg g) := by
  have h : ∀ g, g < 10 → mgI (nI g) = nI (mg g) := by decide +kernel
  exact h g hg
theorem mgI_n : mgI (-1) = -1 := by decide
section NEA
variable {l : Launch} {G : px_Cg} {π π0 : px_H} {K : Option Value ⊕ String → px_H → Prop} {zm n nt nd wd ht c v tl : Nat} {μ h w : Nat → Nat → Int32}
theorem ndS_inv : ∀ d, ndS h c d = (-1, 2147483647) ∨ ∃ e, e < d ∧ ndS h c d = (nI (6 + e), h (12 + e) c) ∧ ¬ h (12 + e) c = -1
  | 0 => Or.inl rfl
  | d + 1 => by
    show (if ¬ h (12 + d) c = -1 ∧ h (12 + d) c < (ndS h c d).2 then (nI (6 + d), h (12 + d) c) else ndS h c d) = _ ∨ ∃ e, e < d + 1 ∧ (if ¬ h (12 + d) c = -1 ∧ h (12 + d) c < (ndS h c d).2 then (nI (6 + d), h (12 + d) c) else ndS h c d) = _ ∧ _
    by_cases q : ¬ h (12 + d) c = -1 ∧ h (12 + d) c < (ndS h c d).2
    · rw [if_pos q]
      exact Or.inr ⟨d, by omega, rfl, q.1⟩
    · rw [if_neg q]
      rcases ndS_inv d with q2 | ⟨e, e1, e2, e3⟩
      · exact Or.inl q2
      · exact Or.inr ⟨e, by omega, e2, e3⟩
theorem fdv_c {D : Nat → Int32} {x : Int32} (hc : c < 12 * ht) (H : fdv ht D c x) : (∃ j, j < 10000 ∧ x = nI j ∧ D c = nI j ∧ ¬ D c = -1) ∨ (x = nI 10000 ∧ D c = -1) := by
  rcases H with ⟨j, h1, h2, h3, h4⟩ | ⟨h1, h2⟩
  · exact Or.inl ⟨j, h1, h3, h4, by rw [h4]; exact nI_nm1 (by omega)⟩
  · exact Or.inr ⟨h1, h2 hc⟩
theorem t_M_nearest (A : GA G) (R : RM zm μ π) (FF : FM h ht nt nd (μ 21)) (h5 : μ 0 5 = nI nd) (hnd : nd ≤ 4) (hht : ht ≤ 12) (hv : v < 16) (hc : c < 12 * ht) (hcv : μ 11 v = nI c) (k : K (.inl (some (.int (mgI (ndS h c nd).1)))) π) :
    px_P l G y_M_nearest b_M_nearest 5 (some .int) (px_rm 2 45) false [.ref zm, .int (nI v)] π K := by
  have hG := A.1
  have hZ := A.2.1
  refine px_P.intro (by decide) hZ (by simp [Value.category]) (Nat.le_of_ble_eq_true rfl) rfl ?_
  intro Γ hl hR X Y hnm hs hbel
  subst hl
  have e10 : ∀ d, (10 : Int32) + nI d = nI (10 + d) := fun d => nI_add 10 d
  have eF : (10000 : Int32) = nI 10000 := rfl
  have em : ∀ d, nI (10 + d) = nI (mg (6 + d)) := fun d => by
    have : mg (6 + d) = 6 + d + 4 := if_neg (by omega)
    rw [this]
    congr 1
    omega
  have emI : ∀ d, d < 4 → mgI (nI (6 + d)) = nI (10 + d) := fun d hd => by rw [mgI_g (by omega), em]
  have loop : ∀ r i x4, i + r = nd → px_G Γ G (px_Q Γ G false K) false 0 0 4 [some (.ref zm), some (.int (nI v)), some (.int (mgI (ndS h c i).1)), some (.int (nI i)), x4] [] π := by
    intro r
    induction r with
    | zero =>
      intro i x4 hi
      have ei : i = nd := by omega
      subst ei
      refine pg_iload_n X d_M_nearest_4 rfl ?_
      refine pg_aload_n X d_M_nearest_5 rfl ?_
      refine pg_getf X (f_M_116 hG) d_M_nearest_6 (px_rd_of (by first | exact R.o | exact R _ (by decide) | assumption)) rfl ?_
      rw [h5]
      refine pg_icmp_ge X d_M_nearest_9 (fun c1 => ?_) (fun c1 => ?_)
      · refine pg_iload_n X d_M_nearest_77 rfl ?_
        exact pg_iret X Y d_M_nearest_78 rfl (by decide) (Nat.zero_le _) (Nat.zero_le _) (k)
      · simp (disch := omega) only [Int32.lt_iff_toInt_lt, Int32.le_iff_toInt_le, nI_toInt, px_l0, px_l1, px_l2, px_l3, px_l4, px_l5, px_l6, px_l10, px_l11, px_l12, px_l16, px_l30, px_l100, px_l400] at c1
        omega
    | succ r ih =>
      intro i x4 hi
      have eS : ndS h c (i + 1) = if ¬ h (12 + i) c = -1 ∧ h (12 + i) c < (ndS h c i).2 then (nI (6 + i), h (12 + i) c) else ndS h c i := rfl
      have fi := fdv_c hc (FF (6 + i) (Or.inr (by omega)) c (by omega))
      rw [show 6 + (6 + i) = 12 + i by omega] at fi
      have yes : ¬ h (12 + i) c = -1 ∧ h (12 + i) c < (ndS h c i).2 → ∀ x4, px_G Γ G (px_Q Γ G false K) false 0 0 50 [some (.ref zm), some (.int (nI v)), some (.int (mgI (ndS h c i).1)), some (.int (nI i)), x4] [] π := by
        intro q x4
        rw [if_pos q] at eS
        refine pg_iconst X (1) d_M_nearest_50 (by decide) ?_
        refine pg_goto X d_M_nearest_51 ?_
        refine pg_istore4 X d_M_nearest_55 ?_
        refine pg_iload X d_M_nearest_57 rfl ?_
        refine pg_if_eq X d_M_nearest_59 (fun c3 => ?_) (fun c3 => ?_)
        · exact absurd c3 (by decide)
        refine pg_bipush X (10) d_M_nearest_62 (by decide) ?_
        refine pg_iload_n X d_M_nearest_64 rfl ?_
        refine pg_iadd X d_M_nearest_65 ?_
        rw [e10]
        refine pg_goto X d_M_nearest_66 ?_
        refine pg_istore2 X d_M_nearest_70 ?_
        refine pg_iinc3 X d_M_nearest_71 ?_
        refine pg_goto X d_M_nearest_74 ?_
        rw [nI_i1, ← emI i (by omega)]
        have hh := ih (i + 1) (some (.int 1)) (by omega)
        rw [eS] at hh
        exact hh
      have no : ¬ (¬ h (12 + i) c = -1 ∧ h (12 + i) c < (ndS h c i).2) → ∀ x4, px_G Γ G (px_Q Γ G false K) false 0 0 54 [some (.ref zm), some (.int (nI v)), some (.int (mgI (ndS h c i).1)), some (.int (nI i)), x4] [] π := by
        intro q x4
        rw [if_neg q] at eS
        refine pg_iconst X (0) d_M_nearest_54 (by decide) ?_
        refine pg_istore4 X d_M_nearest_55 ?_
        refine pg_iload X d_M_nearest_57 rfl ?_
        refine pg_if_eq X d_M_nearest_59 (fun c3 => ?_) (fun c3 => ?_)
        · refine pg_iload_n X d_M_nearest_69 rfl ?_
          refine pg_istore2 X d_M_nearest_70 ?_
          refine pg_iinc3 X d_M_nearest_71 ?_
          refine pg_goto X d_M_nearest_74 ?_
          rw [nI_i1]
          have hh := ih (i + 1) (some (.int 0)) (by omega)
          rw [eS] at hh
          exact hh
        · exact absurd rfl c3
      refine pg_iload_n X d_M_nearest_4 rfl ?_
      refine pg_aload_n X d_M_nearest_5 rfl ?_
      refine pg_getf X (f_M_116 hG) d_M_nearest_6 (px_rd_of (by first | exact R.o | exact R _ (by decide) | assumption)) rfl ?_
      rw [h5]
      refine pg_icmp_ge X d_M_nearest_9 (fun c1 => ?_) (fun c1 => ?_)
      · simp (disch := omega) only [Int32.lt_iff_toInt_lt, Int32.le_iff_toInt_le, nI_toInt, px_l0, px_l1, px_l2, px_l3, px_l4, px_l5, px_l6, px_l10, px_l11, px_l12, px_l16, px_l30, px_l100, px_l400] at c1
        omega
      refine pg_aload_n X d_M_nearest_12 rfl ?_
      refine pg_iload_n X d_M_nearest_13 rfl ?_
      refine pg_bipush X (10) d_M_nearest_14 (by decide) ?_
      refine pg_iload_n X d_M_nearest_16 rfl ?_
      refine pg_iadd X d_M_nearest_17 ?_
      rw [e10, em]
      refine pc_V (ci := 4) (As := [_, _]) X Y d_M_nearest_18 (c_M_133 hG) (i_M_distance hG) (v_M_distance hG) (fun r h => by rw [hG.2] at h; cases h; rfl) rfl rfl (Nat.le_of_ble_eq_true rfl) (by rw [hR]; exact ⟨by decide, by decide⟩) (by decide) (by decide) (by rw [hR]; first | decide | (dsimp only [px_rm]; omega)) (by rw [hR]; first | decide | (dsimp only [px_rm]; omega)) (px_rd_of (by first | exact R.o | assumption)) (t_M_distance A R hv (by omega) (by omega) hcv ?_)
      refine pg_sipush X (10000) d_M_nearest_21 (by decide) ?_
      rcases fi with ⟨j, j1, j2, j3, j4⟩ | ⟨j1, j2⟩
      · rw [j2, eF]
        refine pg_icmp_ge X d_M_nearest_24 (fun c2 => ?_) (fun c2 => ?_)
        · simp (disch := omega) only [Int32.lt_iff_toInt_lt, Int32.le_iff_toInt_le, nI_toInt, px_l0, px_l1, px_l2, px_l3, px_l4, px_l5, px_l6, px_l10, px_l11, px_l12, px_l16, px_l30, px_l100, px_l400] at c2
          omega
        refine pg_iload_n X d_M_nearest_27 rfl ?_
        refine pg_iconst X (-1) d_M_nearest_28 (by decide) ?_
        rcases ndS_inv (h := h) (c := c) i with q2 | ⟨e, e1, e2, e3⟩
        · have yes := yes ⟨j4, by rw [q2, j3]; exact Int32.lt_iff_toInt_lt.mpr (by rw [nI_toInt (by omega)]; show (j : Int) < 2147483647; omega)⟩
          rw [q2] at yes ⊢
          refine pg_icmp_eq X d_M_nearest_29 (fun c3 => ?_) (fun c3 => ?_)
          · exact yes _
          · exact absurd mgI_n c3
        · have fe := fdv_c hc (FF (6 + e) (Or.inr (by omega)) c (by omega))
          rw [show 6 + (6 + e) = 12 + e by omega] at fe
          have hne : ¬ mgI (ndS h c i).1 = -1 := by
            rw [e2, emI e (by omega)]
            exact nI_nm1 (by omega)
          refine pg_icmp_eq X d_M_nearest_29 (fun c3 => ?_) (fun c3 => ?_)
          · exact absurd c3 hne
          refine pg_aload_n X d_M_nearest_32 rfl ?_
          refine pg_iload_n X d_M_nearest_33 rfl ?_
          refine pg_bipush X (10) d_M_nearest_34 (by decide) ?_
          refine pg_iload_n X d_M_nearest_36 rfl ?_
          refine pg_iadd X d_M_nearest_37 ?_
          rw [e10, em]
          refine pc_V (ci := 4) (As := [_, _]) X Y d_M_nearest_38 (c_M_133 hG) (i_M_distance hG) (v_M_distance hG) (fun r h => by rw [hG.2] at h; cases h; rfl) rfl rfl (Nat.le_of_ble_eq_true rfl) (by rw [hR]; exact ⟨by decide, by decide⟩) (by decide) (by decide) (by rw [hR]; first | decide | (dsimp only [px_rm]; omega)) (by rw [hR]; first | decide | (dsimp only [px_rm]; omega)) (px_rd_of (by first | exact R.o | assumption)) (t_M_distance A R hv (by omega) (by omega) hcv ?_)
          refine pg_aload_n X d_M_nearest_41 rfl ?_
          refine pg_iload_n X d_M_nearest_42 rfl ?_
          refine pg_iload_n X d_M_nearest_43 rfl ?_
          have e9 : mgI (ndS h c i).1 = nI (mg (6 + e)) := by rw [e2, mgI_g (by omega)]
          have yes := yes
          have no := no
          rw [e9] at yes no ⊢
          refine pc_V (ci := 4) (As := [_, _]) X Y d_M_nearest_44 (c_M_133 hG) (i_M_distance hG) (v_M_distance hG) (fun r h => by rw [hG.2] at h; cases h; rfl) rfl rfl (Nat.le_of_ble_eq_true rfl) (by rw [hR]; exact ⟨by decide, by decide⟩) (by decide) (by decide) (by rw [hR]; first | decide | (dsimp only [px_rm]; omega)) (by rw [hR]; first | decide | (dsimp only [px_rm]; omega)) (px_rd_of (by first | exact R.o | assumption)) (t_M_distance A R hv (by omega) (by omega) hcv ?_)
          rcases fe with ⟨je, k1, k2, k3, k4⟩ | ⟨k1, k2⟩
          · rw [j2, k2]
            refine pg_icmp_ge X d_M_nearest_47 (fun c4 => ?_) (fun c4 => ?_)
            · refine no (fun q => ?_) _
              rw [e2, j3, k3] at q
              exact k2_nlt c4 q.2
            · exact yes ⟨j4, by rw [e2, j3, k3]; exact k2_lt c4⟩ _
          · exact absurd k2 e3
      · rw [j1, eF]
        refine pg_icmp_ge X d_M_nearest_24 (fun c2 => ?_) (fun c2 => ?_)
        · exact no (fun q => q.1 j2) _
        · exact absurd (by decide) c2
  refine pg_iconst X (-1) d_M_nearest_0 (by decide) ?_
  refine pg_istore2 X d_M_nearest_1 ?_
  refine pg_iconst X (0) d_M_nearest_2 (by decide) ?_
  refine pg_istore3 X d_M_nearest_3 ?_
  exact loop nd 0 none (by omega)
/-- visitor v's key: the first of its group, or itself -/
def KS (w : Nat → Nat → Int32) (v : Nat) : Prop := ∃ k, k ≤ v ∧ w (6 + v) 3 = nI k ∧ (w (6 + v) 2 = 0 → k = v) ∧ (¬ w (6 + v) 2 = 0 → w (6 + k) 2 = w (6 + v) 2 ∧ ∀ j, j < k → ¬ w (6 + j) 2 = w (6 + v) 2)
theorem t_M_key (A : GA G) (R : RM zm μ π) (hg : ∀ u, u < tl → μ 9 u = w (6 + u) 2) (hv : v < tl) (htl : tl ≤ 16) (hgr : 0 ≤ w (6 + v) 2) (hk : KS w v) (k : K (.inl (some (.int (w (6 + v) 3)))) π) :
    px_P l G y_M_key b_M_key 3 (some .int) (px_rm 0 0) false [.ref zm, .int (nI v)] π K := by
  have hG := A.1
  have hZ := A.2.1
  refine px_P.intro (by decide) hZ (by simp [Value.category]) (Nat.le_of_ble_eq_true rfl) rfl ?_
  intro Γ hl hR X Y hnm hs hbel
  subst hl
  obtain ⟨m, m1, m2, m3, m4⟩ := hk
  rw [m2] at k
  by_cases q0 : w (6 + v) 2 = 0
  · have em := m3 q0
    subst em
    refine pg_iconst X (0) d_M_key_0 (by decide) ?_
    refine pg_istore2 X d_M_key_1 ?_
    refine pg_aload_n X d_M_key_2 rfl ?_
    refine pg_getf X (f_M_42 hG) d_M_key_3 (px_rd_of (by first | exact R.o | exact R _ (by decide) | assumption)) rfl ?_
    refine pg_iload_n X d_M_key_6 rfl ?_
    refine pg_ialdN X d_M_key_7 (px_rd_of (by first | exact R.o | exact R _ (by decide) | assumption)) (by first | assumption | omega) (by first | assumption | omega) ?_
    rw [hg m hv, q0]
    refine pg_if_le X d_M_key_8 (fun c1 => ?_) (fun c1 => ?_)
    · refine pg_aload_n X d_M_key_32 rfl ?_
      refine pg_getf X (f_M_42 hG) d_M_key_33 (px_rd_of (by first | exact R.o | exact R _ (by decide) | assumption)) rfl ?_
      refine pg_iload_n X d_M_key_36 rfl ?_
      refine pg_ialdN X d_M_key_37 (px_rd_of (by first | exact R.o | exact R _ (by decide) | assumption)) (by first | assumption | omega) (by first | assumption | omega) ?_
      rw [hg m hv, q0]
      refine pg_if_le X d_M_key_38 (fun c2 => ?_) (fun c2 => ?_)
      · refine pg_iload_n X d_M_key_45 rfl ?_
        exact pg_iret X Y d_M_key_46 rfl (by decide) (Nat.zero_le _) (Nat.zero_le _) (k)
      · exact absurd (by decide) c2
    · exact absurd (by decide) c1
  · have hpos : ¬ w (6 + v) 2 ≤ 0 := fun q => q0 (Int32.le_antisymm q hgr)
    obtain ⟨m5, m6⟩ := m4 q0
    have loop : ∀ r i, i + r = m → px_G Γ G (px_Q Γ G false K) false 0 0 2 [some (.ref zm), some (.int (nI v)), some (.int (nI i))] [] π := by
      intro r
      induction r with
      | zero =>
        intro i hi
        have ei : i = m := by omega
        subst ei
        refine pg_aload_n X d_M_key_2 rfl ?_
        refine pg_getf X (f_M_42 hG) d_M_key_3 (px_rd_of (by first | exact R.o | exact R _ (by decide) | assumption)) rfl ?_
        refine pg_iload_n X d_M_key_6 rfl ?_
        refine pg_ialdN X d_M_key_7 (px_rd_of (by first | exact R.o | exact R _ (by decide) | assumption)) (by first | assumption | omega) (by first | assumption | omega) ?_
        rw [hg v hv]
        refine pg_if_le X d_M_key_8 (fun c1 => ?_) (fun c1 => ?_)
        · exact absurd c1 hpos
        refine pg_aload_n X d_M_key_11 rfl ?_
        refine pg_getf X (f_M_42 hG) d_M_key_12 (px_rd_of (by first | exact R.o | exact R _ (by decide) | assumption)) rfl ?_
        refine pg_iload_n X d_M_key_15 rfl ?_
        refine pg_ialdN X d_M_key_16 (px_rd_of (by first | exact R.o | exact R _ (by decide) | assumption)) (by first | assumption | omega) (by first | assumption | omega) ?_
        refine pg_aload_n X d_M_key_17 rfl ?_
        refine pg_getf X (f_M_42 hG) d_M_key_18 (px_rd_of (by first | exact R.o | exact R _ (by decide) | assumption)) rfl ?_
        refine pg_iload_n X d_M_key_21 rfl ?_
        refine pg_ialdN X d_M_key_22 (px_rd_of (by first | exact R.o | exact R _ (by decide) | assumption)) (by first | assumption | omega) (by first | assumption | omega) ?_
        rw [hg v hv, hg i (by omega)]
        refine pg_icmp_eq X d_M_key_23 (fun c2 => ?_) (fun c2 => ?_)
        · refine pg_aload_n X d_M_key_32 rfl ?_
          refine pg_getf X (f_M_42 hG) d_M_key_33 (px_rd_of (by first | exact R.o | exact R _ (by decide) | assumption)) rfl ?_
          refine pg_iload_n X d_M_key_36 rfl ?_
          refine pg_ialdN X d_M_key_37 (px_rd_of (by first | exact R.o | exact R _ (by decide) | assumption)) (by first | assumption | omega) (by first | assumption | omega) ?_
          rw [hg v hv]
          refine pg_if_le X d_M_key_38 (fun c3 => ?_) (fun c3 => ?_)
          · exact absurd c3 hpos
          refine pg_iload_n X d_M_key_41 rfl ?_
          refine pg_goto X d_M_key_42 ?_
          exact pg_iret X Y d_M_key_46 rfl (by decide) (Nat.zero_le _) (Nat.zero_le _) (k)
        · exact absurd m5 c2
      | succ r ih =>
        intro i hi
        refine pg_aload_n X d_M_key_2 rfl ?_
        refine pg_getf X (f_M_42 hG) d_M_key_3 (px_rd_of (by first | exact R.o | exact R _ (by decide) | assumption)) rfl ?_
        refine pg_iload_n X d_M_key_6 rfl ?_
        refine pg_ialdN X d_M_key_7 (px_rd_of (by first | exact R.o | exact R _ (by decide) | assumption)) (by first | assumption | omega) (by first | assumption | omega) ?_
        rw [hg v hv]
        refine pg_if_le X d_M_key_8 (fun c1 => ?_) (fun c1 => ?_)
        · exact absurd c1 hpos
        refine pg_aload_n X d_M_key_11 rfl ?_
        refine pg_getf X (f_M_42 hG) d_M_key_12 (px_rd_of (by first | exact R.o | exact R _ (by decide) | assumption)) rfl ?_
        refine pg_iload_n X d_M_key_15 rfl ?_
        refine pg_ialdN X d_M_key_16 (px_rd_of (by first | exact R.o | exact R _ (by decide) | assumption)) (by first | assumption | omega) (by first | assumption | omega) ?_
        refine pg_aload_n X d_M_key_17 rfl ?_
        refine pg_getf X (f_M_42 hG) d_M_key_18 (px_rd_of (by first | exact R.o | exact R _ (by decide) | assumption)) rfl ?_
        refine pg_iload_n X d_M_key_21 rfl ?_
        refine pg_ialdN X d_M_key_22 (px_rd_of (by first | exact R.o | exact R _ (by decide) | assumption)) (by first | assumption | omega) (by first | assumption | omega) ?_
        rw [hg v hv, hg i (by omega)]
        refine pg_icmp_eq X d_M_key_23 (fun c2 => ?_) (fun c2 => ?_)
        · exact absurd c2 (m6 i (by omega))
        refine pg_iinc2 X d_M_key_26 ?_
        refine pg_goto X d_M_key_29 ?_
        rw [nI_i1]
        exact ih (i + 1) (by omega)
    refine pg_iconst X (0) d_M_key_0 (by decide) ?_
    refine pg_istore2 X d_M_key_1 ?_
    exact loop m 0 (by omega)
end NEA
