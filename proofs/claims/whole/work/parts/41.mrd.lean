/-! THE MODEL: reading methods -/
theorem nI_m1 (m : Nat) : nI (m + 1) - 1 = nI m := by rw [← nI_1 m]; exact Int32.add_sub_cancel _ _
theorem in_rng {n : Nat} (hn : n < 2 ^ 31) {x : Int32} : ((0 : Int32) ≤ x ∧ x ≤ nI n - 1) ↔ ∃ a, a < n ∧ x = nI a := by
  cases n with
  | zero =>
    refine ⟨fun q => ?_, fun ⟨a, h, _⟩ => absurd h (Nat.not_lt_zero a)⟩
    have h1 := Int32.le_iff_toInt_le.mp q.1
    have h2 := Int32.le_iff_toInt_le.mp q.2
    have e1 : (0 : Int32).toInt = 0 := by decide
    have e2 : (nI 0 - 1).toInt = -1 := by decide
    omega
  | succ m =>
    rw [nI_m1]
    refine ⟨fun q => ?_, fun ⟨a, h, e⟩ => ?_⟩
    · have h1 := Int32.le_iff_toInt_le.mp q.1
      have h2 := Int32.le_iff_toInt_le.mp q.2
      rw [nI_toInt (by omega)] at h2
      have e1 : (0 : Int32).toInt = 0 := by decide
      refine ⟨x.toInt.toNat, by omega, ?_⟩
      apply Int32.toInt_inj.mp
      rw [nI_toInt (by omega)]
      omega
    · subst e
      refine ⟨nI_pos' (by omega), ?_⟩
      rw [Int32.le_iff_toInt_le, nI_toInt (by omega), nI_toInt (by omega)]
      omega
section MR2
variable {l : Launch} {G : px_Cg} {π π0 : px_H} {K : Option Value ⊕ String → px_H → Prop} {zm tl nt nd wd ht : Nat} {μ : Nat → Nat → Int32}
def isXY (wd ht : Nat) (x y : Int32) : Prop := ∃ a b, a < wd ∧ b < ht ∧ x = nI a ∧ y = nI b
theorem t_M_isCell (A : GA G) (R : RM zm μ π) (h1 : μ 0 1 = nI wd) (h2 : μ 0 2 = nI ht) (hw : wd ≤ 12) (hh : ht ≤ 12) {x y : Int32} (k1 : isXY wd ht x y → K (.inl (some (.int 1))) π) (k0 : ¬ isXY wd ht x y → K (.inl (some (.int 0))) π) :
    px_P l G y_M_isCell b_M_isCell 3 (some .boolean) (px_rm 1 22) false [.ref zm, .int x, .int y] π K := by
  have hG := A.1
  have hZ := A.2.1
  refine px_P.intro (by decide) hZ (by simp [Value.category]) (Nat.le_of_ble_eq_true rfl) rfl ?_
  intro Γ hl hR X Y hnm hs hbel
  subst hl
  have bad : ¬ isXY wd ht x y → px_G Γ G (px_Q Γ G false K) false 0 0 32 [some (.ref zm), some (.int x), some (.int y)] [] π := by
    intro q
    refine pg_iconst X (0) d_M_isCell_32 (by decide) ?_
    exact pg_iret X Y d_M_isCell_33 rfl (by decide) (Nat.zero_le _) (Nat.zero_le _) (k0 q)
  refine pg_iload_n X d_M_isCell_0 rfl ?_
  refine pg_iconst X (0) d_M_isCell_1 (by decide) ?_
  refine pg_aload_n X d_M_isCell_2 rfl ?_
  refine pg_getf X (f_M_81 hG) d_M_isCell_3 (px_rd_of (by first | exact R.o | exact R _ (by decide) | assumption)) rfl ?_
  refine pg_iconst X (1) d_M_isCell_6 (by decide) ?_
  refine pg_isub X d_M_isCell_7 ?_
  rw [h1]
  refine pc_S (As := [_, _, _]) X Y d_M_isCell_8 (c_M_94 hG) (s_M_within hG) rfl rfl (Nat.le_of_ble_eq_true rfl) (by rw [hR]; exact ⟨by decide, by decide⟩) (by decide) (by decide) (by rw [hR]; first | decide | (dsimp only [px_rm]; omega)) (by rw [hR]; first | decide | (dsimp only [px_rm]; omega)) (t_M_within A (fun q1 => ?_) (fun q1 => ?_))
  · rw [in_rng (by omega)] at q1
    refine pg_if_eq X d_M_isCell_11 (fun c1 => ?_) (fun c1 => ?_)
    · exact absurd c1 (by decide)
    refine pg_iload_n X d_M_isCell_14 rfl ?_
    refine pg_iconst X (0) d_M_isCell_15 (by decide) ?_
    refine pg_aload_n X d_M_isCell_16 rfl ?_
    refine pg_getf X (f_M_84 hG) d_M_isCell_17 (px_rd_of (by first | exact R.o | exact R _ (by decide) | assumption)) rfl ?_
    refine pg_iconst X (1) d_M_isCell_20 (by decide) ?_
    refine pg_isub X d_M_isCell_21 ?_
    rw [h2]
    refine pc_S (As := [_, _, _]) X Y d_M_isCell_22 (c_M_94 hG) (s_M_within hG) rfl rfl (Nat.le_of_ble_eq_true rfl) (by rw [hR]; exact ⟨by decide, by decide⟩) (by decide) (by decide) (by rw [hR]; first | decide | (dsimp only [px_rm]; omega)) (by rw [hR]; first | decide | (dsimp only [px_rm]; omega)) (t_M_within A (fun q2 => ?_) (fun q2 => ?_))
    · rw [in_rng (by omega)] at q2
      refine pg_if_eq X d_M_isCell_25 (fun c2 => ?_) (fun c2 => ?_)
      · exact absurd c2 (by decide)
      refine pg_iconst X (1) d_M_isCell_28 (by decide) ?_
      refine pg_goto X d_M_isCell_29 ?_
      obtain ⟨a, ha, ea⟩ := q1
      obtain ⟨b, hb, eb⟩ := q2
      exact pg_iret X Y d_M_isCell_33 rfl (by decide) (Nat.zero_le _) (Nat.zero_le _) (k1 ⟨a, b, ha, hb, ea, eb⟩)
    · rw [in_rng (by omega)] at q2
      refine pg_if_eq X d_M_isCell_25 (fun c2 => ?_) (fun c2 => ?_)
      · exact bad (fun ⟨a, b, ha, hb, ea, eb⟩ => q2 ⟨b, hb, eb⟩)
      · exact absurd rfl c2
  · rw [in_rng (by omega)] at q1
    refine pg_if_eq X d_M_isCell_11 (fun c1 => ?_) (fun c1 => ?_)
    · exact bad (fun ⟨a, b, ha, hb, ea, eb⟩ => q1 ⟨a, ha, ea⟩)
    · exact absurd rfl c1
theorem t_M_isVisitor (A : GA G) (R : RM zm μ π) (h8 : μ 0 8 = nI tl) (htl : tl ≤ 16) {x : Int32} (k1 : (∃ i, i < tl ∧ x = nI i) → K (.inl (some (.int 1))) π) (k0 : (¬ ∃ i, i < tl ∧ x = nI i) → K (.inl (some (.int 0))) π) :
    px_P l G y_M_isVisitor b_M_isVisitor 2 (some .boolean) (px_rm 1 22) false [.ref zm, .int x] π K := by
  have hG := A.1
  have hZ := A.2.1
  refine px_P.intro (by decide) hZ (by simp [Value.category]) (Nat.le_of_ble_eq_true rfl) rfl ?_
  intro Γ hl hR X Y hnm hs hbel
  subst hl
  refine pg_iload_n X d_M_isVisitor_0 rfl ?_
  refine pg_iconst X (0) d_M_isVisitor_1 (by decide) ?_
  refine pg_aload_n X d_M_isVisitor_2 rfl ?_
  refine pg_getf X (f_M_98 hG) d_M_isVisitor_3 (px_rd_of (by first | exact R.o | exact R _ (by decide) | assumption)) rfl ?_
  refine pg_iconst X (1) d_M_isVisitor_6 (by decide) ?_
  refine pg_isub X d_M_isVisitor_7 ?_
  rw [h8]
  refine pc_S (As := [_, _, _]) X Y d_M_isVisitor_8 (c_M_94 hG) (s_M_within hG) rfl rfl (Nat.le_of_ble_eq_true rfl) (by rw [hR]; exact ⟨by decide, by decide⟩) (by decide) (by decide) (by rw [hR]; first | decide | (dsimp only [px_rm]; omega)) (by rw [hR]; first | decide | (dsimp only [px_rm]; omega)) (t_M_within A (fun q1 => ?_) (fun q1 => ?_))
  · exact pg_iret X Y d_M_isVisitor_11 rfl (by decide) (Nat.zero_le _) (Nat.zero_le _) (k1 ((in_rng (by omega)).mp q1))
  · exact pg_iret X Y d_M_isVisitor_11 rfl (by decide) (Nat.zero_le _) (Nat.zero_le _) (k0 (fun q => q1 ((in_rng (by omega)).mpr q)))
/-- bits below k -/
def mny (s : Int32) : Nat → Int32
  | 0 => 0
  | k + 1 => mny s k + px_sb s (nI k)
theorem t_M_many (A : GA G) {s : Int32} (k : K (.inl (some (.int (mny s 6)))) π) :
    px_P l G y_M_many b_M_many 4 (some .int) (px_rm 0 0) false [.ref zm, .int s] π K := by
  have hG := A.1
  have hZ := A.2.1
  refine px_P.intro (by decide) hZ (by simp [Value.category]) (Nat.le_of_ble_eq_true rfl) rfl ?_
  intro Γ hl hR X Y hnm hs hbel
  subst hl
  have loop : ∀ r i, i + r = 6 → px_G Γ G (px_Q Γ G false K) false 0 0 4 [some (.ref zm), some (.int s), some (.int (mny s i)), some (.int (nI i))] [] π := by
    intro r
    induction r with
    | zero =>
      intro i hi
      have ei : i = 6 := by omega
      subst ei
      refine pg_iload_n X d_M_many_4 rfl ?_
      refine pg_bipush X (6) d_M_many_5 (by decide) ?_
      refine pg_icmp_ge X d_M_many_7 (fun c1 => ?_) (fun c1 => ?_)
      · refine pg_iload_n X d_M_many_24 rfl ?_
        exact pg_iret X Y d_M_many_25 rfl (by decide) (Nat.zero_le _) (Nat.zero_le _) (k)
      · exact absurd (by decide) c1
    | succ r ih =>
      intro i hi
      refine pg_iload_n X d_M_many_4 rfl ?_
      refine pg_bipush X (6) d_M_many_5 (by decide) ?_
      refine pg_icmp_ge X d_M_many_7 (fun c1 => ?_) (fun c1 => ?_)
      · simp (disch := omega) only [Int32.lt_iff_toInt_lt, Int32.le_iff_toInt_le, nI_toInt, px_l0, px_l1, px_l2, px_l3, px_l4, px_l5, px_l6, px_l10, px_l11, px_l12, px_l16, px_l30, px_l100, px_l400] at c1
        omega
      refine pg_iload_n X d_M_many_10 rfl ?_
      refine pg_iload_n X d_M_many_11 rfl ?_
      refine pg_iload_n X d_M_many_12 rfl ?_
      refine pg_ishr X d_M_many_13 ?_
      refine pg_iconst X (1) d_M_many_14 (by decide) ?_
      refine pg_iand X d_M_many_15 ?_
      refine pg_iadd X d_M_many_16 ?_
      refine pg_istore2 X d_M_many_17 ?_
      refine pg_iinc3 X d_M_many_18 ?_
      refine pg_goto X d_M_many_21 ?_
      rw [nI_i1]
      exact ih (i + 1) (by omega)
  refine pg_iconst X (0) d_M_many_0 (by decide) ?_
  refine pg_istore2 X d_M_many_1 ?_
  refine pg_iconst X (0) d_M_many_2 (by decide) ?_
  refine pg_istore3 X d_M_many_3 ?_
  exact loop 6 0 rfl
/-- how many of those below i have seen t -/
def sno (s : Nat → Int32) (t : Int32) : Nat → Int32
  | 0 => 0
  | k + 1 => sno s t k + px_sb (s k) t
theorem t_M_seenOf (A : GA G) (R : RM zm μ π) (h8 : μ 0 8 = nI tl) (htl : tl ≤ 16) {t : Int32} (k : K (.inl (some (.int (sno (μ 14) t tl)))) π) :
    px_P l G y_M_seenOf b_M_seenOf 4 (some .int) (px_rm 0 0) false [.ref zm, .int t] π K := by
  have hG := A.1
  have hZ := A.2.1
  refine px_P.intro (by decide) hZ (by simp [Value.category]) (Nat.le_of_ble_eq_true rfl) rfl ?_
  intro Γ hl hR X Y hnm hs hbel
  subst hl
  have loop : ∀ r i, i + r = tl → px_G Γ G (px_Q Γ G false K) false 0 0 4 [some (.ref zm), some (.int t), some (.int (sno (μ 14) t i)), some (.int (nI i))] [] π := by
    intro r
    induction r with
    | zero =>
      intro i hi
      have ei : i = tl := by omega
      subst ei
      refine pg_iload_n X d_M_seenOf_4 rfl ?_
      refine pg_aload_n X d_M_seenOf_5 rfl ?_
      refine pg_getf X (f_M_98 hG) d_M_seenOf_6 (px_rd_of (by first | exact R.o | exact R _ (by decide) | assumption)) rfl ?_
      rw [h8]
      refine pg_icmp_ge X d_M_seenOf_9 (fun c1 => ?_) (fun c1 => ?_)
      · refine pg_iload_n X d_M_seenOf_31 rfl ?_
        exact pg_iret X Y d_M_seenOf_32 rfl (by decide) (Nat.zero_le _) (Nat.zero_le _) (k)
      · simp (disch := omega) only [Int32.lt_iff_toInt_lt, Int32.le_iff_toInt_le, nI_toInt, px_l0, px_l1, px_l2, px_l3, px_l4, px_l5, px_l6, px_l10, px_l11, px_l12, px_l16, px_l30, px_l100, px_l400] at c1
        omega
    | succ r ih =>
      intro i hi
      refine pg_iload_n X d_M_seenOf_4 rfl ?_
      refine pg_aload_n X d_M_seenOf_5 rfl ?_
      refine pg_getf X (f_M_98 hG) d_M_seenOf_6 (px_rd_of (by first | exact R.o | exact R _ (by decide) | assumption)) rfl ?_
      rw [h8]
      refine pg_icmp_ge X d_M_seenOf_9 (fun c1 => ?_) (fun c1 => ?_)
      · simp (disch := omega) only [Int32.lt_iff_toInt_lt, Int32.le_iff_toInt_le, nI_toInt, px_l0, px_l1, px_l2, px_l3, px_l4, px_l5, px_l6, px_l10, px_l11, px_l12, px_l16, px_l30, px_l100, px_l400] at c1
        omega
      refine pg_iload_n X d_M_seenOf_12 rfl ?_
      refine pg_aload_n X d_M_seenOf_13 rfl ?_
      refine pg_getf X (f_M_57 hG) d_M_seenOf_14 (px_rd_of (by first | exact R.o | exact R _ (by decide) | assumption)) rfl ?_
      refine pg_iload_n X d_M_seenOf_17 rfl ?_
      refine pg_ialdN X d_M_seenOf_18 (px_rd_of (by first | exact R.o | exact R _ (by decide) | assumption)) (by first | assumption | omega) (by first | assumption | omega) ?_
      refine pg_iload_n X d_M_seenOf_19 rfl ?_
      refine pg_ishr X d_M_seenOf_20 ?_
      refine pg_iconst X (1) d_M_seenOf_21 (by decide) ?_
      refine pg_iand X d_M_seenOf_22 ?_
      refine pg_iadd X d_M_seenOf_23 ?_
      refine pg_istore2 X d_M_seenOf_24 ?_
      refine pg_iinc3 X d_M_seenOf_25 ?_
      refine pg_goto X d_M_seenOf_28 ?_
      rw [nI_i1]
      exact ih (i + 1) (by omega)
  refine pg_iconst X (0) d_M_seenOf_0 (by decide) ?_
  refine pg_istore2 X d_M_seenOf_1 ?_
  refine pg_iconst X (0) d_M_seenOf_2 (by decide) ?_
  refine pg_istore3 X d_M_seenOf_3 ?_
  exact loop tl 0 (by omega)
/-- the goal's place among the rows of far, and its number for callers -/
def mg (g : Nat) : Nat := if g < 6 then g else g + 4
theorem t_M_rowOf (A : GA G) {g : Nat} (hg : g < 10) (k : K (.inl (some (.int (nI (144 * g))))) π) :
    px_P l G y_M_rowOf b_M_rowOf 1 (some .int) (px_rm 0 0) false [.int (nI (mg g))] π K := by
  have hG := A.1
  have hZ := A.2.1
  refine px_P.intro (by decide) hZ (by simp [Value.category]) (Nat.le_of_ble_eq_true rfl) rfl ?_
  intro Γ hl hR X Y hnm hs hbel
  subst hl
  have e144 : (144 : Int32) = nI 144 := rfl
  refine pg_sipush X (144) d_M_rowOf_0 (by decide) ?_
  refine pg_iload_n X d_M_rowOf_3 rfl ?_
  refine pg_bipush X (10) d_M_rowOf_4 (by decide) ?_
  by_cases h6 : g < 6
  · have em : mg g = g := if_pos h6
    rw [em]
    refine pg_icmp_ge X d_M_rowOf_6 (fun c1 => ?_) (fun c1 => ?_)
    · simp (disch := omega) only [Int32.lt_iff_toInt_lt, Int32.le_iff_toInt_le, nI_toInt, px_l0, px_l1, px_l2, px_l3, px_l4, px_l5, px_l6, px_l10, px_l11, px_l12, px_l16, px_l30, px_l100, px_l400] at c1
      omega
    refine pg_iload_n X d_M_rowOf_9 rfl ?_
    refine pg_goto X d_M_rowOf_10 ?_
    refine pg_imul X d_M_rowOf_16 ?_
    rw [e144, pk_mul]
    exact pg_iret X Y d_M_rowOf_17 rfl (by decide) (Nat.zero_le _) (Nat.zero_le _) (k)
  · have em : mg g = g + 4 := if_neg h6
    rw [em]
    refine pg_icmp_ge X d_M_rowOf_6 (fun c1 => ?_) (fun c1 => ?_)
    · refine pg_iload_n X d_M_rowOf_13 rfl ?_
      refine pg_iconst X (4) d_M_rowOf_14 (by decide) ?_
      refine pg_isub X d_M_rowOf_15 ?_
      have e4 : nI (g + 4) - 4 = nI g := by
        rw [← nI_add]
        exact Int32.add_sub_cancel _ _
      rw [e4]
      refine pg_imul X d_M_rowOf_16 ?_
      rw [e144, pk_mul]
      exact pg_iret X Y d_M_rowOf_17 rfl (by decide) (Nat.zero_le _) (Nat.zero_le _) (k)
    · simp (disch := omega) only [Int32.lt_iff_toInt_lt, Int32.le_iff_toInt_le, nI_toInt, px_l0, px_l1, px_l2, px_l3, px_l4, px_l5, px_l6, px_l10, px_l11, px_l12, px_l16, px_l30, px_l100, px_l400] at c1
      omega
theorem t_M_distance (A : GA G) (R : RM zm μ π) {v g c : Nat} (hv : v < 16) (hg : g < 10) (hc : c < 144) (hcv : μ 11 v = nI c) (k : K (.inl (some (.int (μ 21 (144 * g + c))))) π) :
    px_P l G y_M_distance b_M_distance 3 (some .int) (px_rm 1 20) false [.ref zm, .int (nI v), .int (nI (mg g))] π K := by
  have hG := A.1
  have hZ := A.2.1
  refine px_P.intro (by decide) hZ (by simp [Value.category]) (Nat.le_of_ble_eq_true rfl) rfl ?_
  intro Γ hl hR X Y hnm hs hbel
  subst hl
  refine pg_aload_n X d_M_distance_0 rfl ?_
  refine pg_getf X (f_M_78 hG) d_M_distance_1 (px_rd_of (by first | exact R.o | exact R _ (by decide) | assumption)) rfl ?_
  refine pg_iload_n X d_M_distance_4 rfl ?_
  refine pc_S (As := [_]) X Y d_M_distance_5 (c_M_130 hG) (s_M_rowOf hG) rfl rfl (Nat.le_of_ble_eq_true rfl) (by rw [hR]; exact ⟨by decide, by decide⟩) (by decide) (by decide) (by rw [hR]; first | decide | (dsimp only [px_rm]; omega)) (by rw [hR]; first | decide | (dsimp only [px_rm]; omega)) (t_M_rowOf A hg ?_)
  refine pg_aload_n X d_M_distance_8 rfl ?_
  refine pg_getf X (f_M_48 hG) d_M_distance_9 (px_rd_of (by first | exact R.o | exact R _ (by decide) | assumption)) rfl ?_
  refine pg_iload_n X d_M_distance_12 rfl ?_
  refine pg_ialdN X d_M_distance_13 (px_rd_of (by first | exact R.o | exact R _ (by decide) | assumption)) (by first | assumption | omega) (by first | assumption | omega) ?_
  rw [hcv]
  refine pg_iadd X d_M_distance_14 ?_
  rw [nI_add]
  refine pg_ialdN X d_M_distance_15 (px_rd_of (by first | exact R.o | exact R _ (by decide) | assumption)) (by first | assumption | omega) (by first | assumption | omega) ?_
  exact pg_iret X Y d_M_distance_16 rfl (by decide) (Nat.zero_le _) (Nat.zero_le _) (k)
theorem t_M_stepAt (A : GA G) (R : RM zm μ π) {fr : Nat} (hf : fr + 144 ≤ 1440) {x : Int32} (k1 : ∀ c, c < 144 → x = nI c → K (.inl (some (.int (μ 21 (fr + c))))) π) (k0 : (¬ ∃ c, c < 144 ∧ x = nI c) → K (.inl (some (.int 10000))) π) :
    px_P l G y_M_stepAt b_M_stepAt 3 (some .int) (px_rm 1 22) false [.ref zm, .int (nI fr), .int x] π K := by
  have hG := A.1
  have hZ := A.2.1
  refine px_P.intro (by decide) hZ (by simp [Value.category]) (Nat.le_of_ble_eq_true rfl) rfl ?_
  intro Γ hl hR X Y hnm hs hbel
  subst hl
  have e143 : (143 : Int32) = nI 144 - 1 := by decide
  refine pg_iload_n X d_M_stepAt_0 rfl ?_
  refine pg_iconst X (0) d_M_stepAt_1 (by decide) ?_
  refine pg_sipush X (143) d_M_stepAt_2 (by decide) ?_
  rw [e143]
  refine pc_S (As := [_, _, _]) X Y d_M_stepAt_5 (c_M_94 hG) (s_M_within hG) rfl rfl (Nat.le_of_ble_eq_true rfl) (by rw [hR]; exact ⟨by decide, by decide⟩) (by decide) (by decide) (by rw [hR]; first | decide | (dsimp only [px_rm]; omega)) (by rw [hR]; first | decide | (dsimp only [px_rm]; omega)) (t_M_within A (fun q1 => ?_) (fun q1 => ?_))
  · rw [in_rng (by decide)] at q1
    obtain ⟨c, hc, ec⟩ := q1
    have kx := k1 c hc ec
    clear k1 k0
    subst ec
    refine pg_if_eq X d_M_stepAt_8 (fun c1 => ?_) (fun c1 => ?_)
    · exact absurd c1 (by decide)
    refine pg_aload_n X d_M_stepAt_11 rfl ?_
    refine pg_getf X (f_M_78 hG) d_M_stepAt_12 (px_rd_of (by first | exact R.o | exact R _ (by decide) | assumption)) rfl ?_
    refine pg_iload_n X d_M_stepAt_15 rfl ?_
    refine pg_iload_n X d_M_stepAt_16 rfl ?_
    refine pg_iadd X d_M_stepAt_17 ?_
    rw [nI_add]
    refine pg_ialdN X d_M_stepAt_18 (px_rd_of (by first | exact R.o | exact R _ (by decide) | assumption)) (by first | assumption | omega) (by first | assumption | omega) ?_
    refine pg_goto X d_M_stepAt_19 ?_
    exact pg_iret X Y d_M_stepAt_25 rfl (by decide) (Nat.zero_le _) (Nat.zero_le _) (kx)
  · rw [in_rng (by decide)] at q1
    refine pg_if_eq X d_M_stepAt_8 (fun c1 => ?_) (fun c1 => ?_)
    · refine pg_sipush X (10000) d_M_stepAt_22 (by decide) ?_
      exact pg_iret X Y d_M_stepAt_25 rfl (by decide) (Nat.zero_le _) (Nat.zero_le _) (k0 q1)
    · exact absurd rfl c1
end MR2
