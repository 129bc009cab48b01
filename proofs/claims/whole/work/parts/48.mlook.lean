/-! THE MODEL: isReady, look -/
section LOO
variable {l : Launch} {G : px_Cg} {π π0 : px_H} {K : Option Value ⊕ String → px_H → Prop} {zm n nt nd wd ht c v tl t z : Nat} {μ h w : Nat → Nat → Int32}
def rdy (μ : Nat → Nat → Int32) (z t : Nat) : Prop := px_sb (μ 14 z) (nI t) = 1 ∨ (μ 12 z = nI t ∧ μ 11 z = μ 2 t ∧ μ 4 t ≤ μ 13 z)
theorem t_M_isReady (A : GA G) (R : RM zm μ π) (hz : z < 16) (ht : t < 6) (k1 : rdy μ z t → K (.inl (some (.int 1))) π) (k0 : ¬ rdy μ z t → K (.inl (some (.int 0))) π) :
    px_P l G y_M_isReady b_M_isReady 3 (some .boolean) (px_rm 0 0) false [.ref zm, .int (nI z), .int (nI t)] π K := by
  have hG := A.1
  have hZ := A.2.1
  refine px_P.intro (by decide) hZ (by simp [Value.category]) (Nat.le_of_ble_eq_true rfl) rfl ?_
  intro Γ hl hR X Y hnm hs hbel
  subst hl
  have yes : rdy μ z t → px_G Γ G (px_Q Γ G false K) false 0 0 54 [some (.ref zm), some (.int (nI z)), some (.int (nI t))] [] π := by
    intro q
    refine pg_iconst X (1) d_M_isReady_54 (by decide) ?_
    refine pg_goto X d_M_isReady_55 ?_
    exact pg_iret X Y d_M_isReady_59 rfl (by decide) (Nat.zero_le _) (Nat.zero_le _) (k1 q)
  have no : ¬ rdy μ z t → px_G Γ G (px_Q Γ G false K) false 0 0 58 [some (.ref zm), some (.int (nI z)), some (.int (nI t))] [] π := by
    intro q
    refine pg_iconst X (0) d_M_isReady_58 (by decide) ?_
    exact pg_iret X Y d_M_isReady_59 rfl (by decide) (Nat.zero_le _) (Nat.zero_le _) (k0 q)
  refine pg_aload_n X d_M_isReady_0 rfl ?_
  refine pg_getf X (f_M_57 hG) d_M_isReady_1 (px_rd_of (by first | exact R.o | exact R _ (by decide) | assumption)) rfl ?_
  refine pg_iload_n X d_M_isReady_4 rfl ?_
  refine pg_ialdN X d_M_isReady_5 (px_rd_of (by first | exact R.o | exact R _ (by decide) | assumption)) (by first | assumption | omega) (by first | assumption | omega) ?_
  refine pg_iload_n X d_M_isReady_6 rfl ?_
  refine pg_ishr X d_M_isReady_7 ?_
  refine pg_iconst X (1) d_M_isReady_8 (by decide) ?_
  refine pg_iand X d_M_isReady_9 ?_
  refine pg_iconst X (1) d_M_isReady_10 (by decide) ?_
  refine pg_icmp_eq X d_M_isReady_11 (fun c1 => ?_) (fun c1 => ?_)
  · exact yes (Or.inl c1)
  refine pg_aload_n X d_M_isReady_14 rfl ?_
  refine pg_getf X (f_M_51 hG) d_M_isReady_15 (px_rd_of (by first | exact R.o | exact R _ (by decide) | assumption)) rfl ?_
  refine pg_iload_n X d_M_isReady_18 rfl ?_
  refine pg_ialdN X d_M_isReady_19 (px_rd_of (by first | exact R.o | exact R _ (by decide) | assumption)) (by first | assumption | omega) (by first | assumption | omega) ?_
  refine pg_iload_n X d_M_isReady_20 rfl ?_
  refine pg_icmp_ne X d_M_isReady_21 (fun c2 => ?_) (fun c2 => ?_)
  · exact no (fun q => q.elim c1 (fun q => c2 q.1))
  refine pg_aload_n X d_M_isReady_24 rfl ?_
  refine pg_getf X (f_M_48 hG) d_M_isReady_25 (px_rd_of (by first | exact R.o | exact R _ (by decide) | assumption)) rfl ?_
  refine pg_iload_n X d_M_isReady_28 rfl ?_
  refine pg_ialdN X d_M_isReady_29 (px_rd_of (by first | exact R.o | exact R _ (by decide) | assumption)) (by first | assumption | omega) (by first | assumption | omega) ?_
  refine pg_aload_n X d_M_isReady_30 rfl ?_
  refine pg_getf X (f_M_13 hG) d_M_isReady_31 (px_rd_of (by first | exact R.o | exact R _ (by decide) | assumption)) rfl ?_
  refine pg_iload_n X d_M_isReady_34 rfl ?_
  refine pg_ialdN X d_M_isReady_35 (px_rd_of (by first | exact R.o | exact R _ (by decide) | assumption)) (by first | assumption | omega) (by first | assumption | omega) ?_
  refine pg_icmp_ne X d_M_isReady_36 (fun c3 => ?_) (fun c3 => ?_)
  · exact no (fun q => q.elim c1 (fun q => c3 q.2.1))
  refine pg_aload_n X d_M_isReady_39 rfl ?_
  refine pg_getf X (f_M_54 hG) d_M_isReady_40 (px_rd_of (by first | exact R.o | exact R _ (by decide) | assumption)) rfl ?_
  refine pg_iload_n X d_M_isReady_43 rfl ?_
  refine pg_ialdN X d_M_isReady_44 (px_rd_of (by first | exact R.o | exact R _ (by decide) | assumption)) (by first | assumption | omega) (by first | assumption | omega) ?_
  refine pg_aload_n X d_M_isReady_45 rfl ?_
  refine pg_getf X (f_M_20 hG) d_M_isReady_46 (px_rd_of (by first | exact R.o | exact R _ (by decide) | assumption)) rfl ?_
  refine pg_iload_n X d_M_isReady_49 rfl ?_
  refine pg_ialdN X d_M_isReady_50 (px_rd_of (by first | exact R.o | exact R _ (by decide) | assumption)) (by first | assumption | omega) (by first | assumption | omega) ?_
  refine pg_icmp_lt X d_M_isReady_51 (fun c4 => ?_) (fun c4 => ?_)
  · exact no (fun q => q.elim c1 (fun q => k2_nlt q.2.2 c4))
  · exact yes (Or.inr ⟨c2, c3, k2_le c4⟩)
def wth (μ : Nat → Nat → Int32) (v z : Nat) : Prop := μ 10 z = 1 ∧ ¬ μ 9 v ≤ 0 ∧ μ 9 z = μ 9 v
def lkC (μ : Nat → Nat → Int32) (v t tl : Nat) : Prop := μ 4 t ≤ μ 13 v ∧ ∀ z, z < tl → wth μ v z → rdy μ z t
def lm1 (μ : Nat → Nat → Int32) (v : Nat) : Nat → Nat → Int32 := up2 μ 13 v (μ 13 v + 1)
def lmD (μ : Nat → Nat → Int32) (v t : Nat) : Nat → Nat → Int32 := up2 (up2 μ 14 v (μ 14 v ||| ((1 : Int32) <<< (nI t &&& 31)))) 12 v (-1)
noncomputable def lkM (μ : Nat → Nat → Int32) (v t tl : Nat) : Nat → Nat → Int32 := px_if (lkC (lm1 μ v) v t tl) (lmD (lm1 μ v) v t) (lm1 μ v)
theorem t_M_look (A : GA G) (S : SM zm μ π0 π) (h8 : μ 0 8 = nI tl) (htl : tl ≤ 16) (hv : v < tl) (ht : t < 6) (hgo : μ 12 v = nI t) (k : ∀ π1, SM zm (lkM μ v t tl) π0 π1 → K (.inl none) π1) :
    px_P l G y_M_look b_M_look 6 none (px_rm 1 22) true [.ref zm, .int (nI v)] π K := by
  have hG := A.1
  have hZ := A.2.1
  refine px_P.intro (by decide) hZ (by simp [Value.category]) (Nat.le_of_ble_eq_true rfl) rfl ?_
  intro Γ hl hR X Y hnm hs hbel
  subst hl
  refine pg_w ?_
  have R := S.1
  have hv16 : v < 16 := by omega
  refine pg_aload_n X d_M_look_0 rfl ?_
  refine pg_getf X (f_M_51 hG) d_M_look_1 (px_rd_of (by first | exact R.o | exact R _ (by decide) | assumption)) rfl ?_
  refine pg_iload_n X d_M_look_4 rfl ?_
  refine pg_ialdN X d_M_look_5 (px_rd_of (by first | exact R.o | exact R _ (by decide) | assumption)) (by first | assumption | omega) (by first | assumption | omega) ?_
  rw [hgo]
  refine pg_istore2 X d_M_look_6 ?_
  refine pg_aload_n X d_M_look_7 rfl ?_
  refine pg_getf X (f_M_54 hG) d_M_look_8 (px_rd_of (by first | exact R.o | exact R _ (by decide) | assumption)) rfl ?_
  refine pg_iload_n X d_M_look_11 rfl ?_
  refine pg_dup2 X d_M_look_12 rfl rfl ?_
  refine pg_ialdN X d_M_look_13 (px_rd_of (by first | exact R.o | exact R _ (by decide) | assumption)) (by first | assumption | omega) (by first | assumption | omega) ?_
  refine pg_iconst X (1) d_M_look_14 (by decide) ?_
  refine pg_iadd X d_M_look_15 ?_
  refine pm_ist X S (fun _ => rfl) (by decide) d_M_look_16 (by first | assumption | omega) (by first | assumption | omega) (fun π1 S => ?_)
  have R := S.1
  have S : SM zm (lm1 μ v) π0 π1 := S
  have R := S.1
  have g8 : lm1 μ v 0 8 = nI tl := by unfold lm1; rw [up2_r (by decide)]; exact h8
  have unf : lkM μ v t tl = px_if (lkC (lm1 μ v) v t tl) (lmD (lm1 μ v) v t) (lm1 μ v) := rfl
  rw [unf] at k
  generalize lm1 μ v = μ1 at S R g8 k
  have loop : ∀ r i b x5, i + r = tl → ((b = 1 ∧ μ1 4 t ≤ μ1 13 v ∧ ∀ z, z < i → wth μ1 v z → rdy μ1 z t) ∨ (b = 0 ∧ ¬ (μ1 4 t ≤ μ1 13 v ∧ ∀ z, z < i → wth μ1 v z → rdy μ1 z t))) → px_G Γ G (px_Q Γ G true K) true 0 0 41 [some (.ref zm), some (.int (nI v)), some (.int (nI t)), some (.int b), some (.int (nI i)), x5] [] π1 := by
    intro r
    induction r with
    | zero =>
      intro i b x5 hi hb
      have ei : i = tl := by omega
      subst ei
      refine pg_iload X d_M_look_41 rfl ?_
      refine pg_aload_n X d_M_look_43 rfl ?_
      refine pg_getf X (f_M_98 hG) d_M_look_44 (px_rd_of (by first | exact R.o | exact R _ (by decide) | assumption)) rfl ?_
      rw [g8]
      refine pg_icmp_ge X d_M_look_47 (fun c1 => ?_) (fun c1 => ?_)
      · refine pg_iload_n X d_M_look_124 rfl ?_
        rcases hb with ⟨b1, b2⟩ | ⟨b1, b2⟩
        · subst b1
          have b2' : lkC μ1 v t i := b2
          rw [px_if_t b2'] at k
          refine pg_if_eq X d_M_look_125 (fun c2 => ?_) (fun c2 => ?_)
          · exact absurd c2 (by decide)
          refine pg_aload_n X d_M_look_128 rfl ?_
          refine pg_getf X (f_M_57 hG) d_M_look_129 (px_rd_of (by first | exact R.o | exact R _ (by decide) | assumption)) rfl ?_
          refine pg_iload_n X d_M_look_132 rfl ?_
          refine pg_aload_n X d_M_look_133 rfl ?_
          refine pg_getf X (f_M_57 hG) d_M_look_134 (px_rd_of (by first | exact R.o | exact R _ (by decide) | assumption)) rfl ?_
          refine pg_iload_n X d_M_look_137 rfl ?_
          refine pg_ialdN X d_M_look_138 (px_rd_of (by first | exact R.o | exact R _ (by decide) | assumption)) (by first | assumption | omega) (by first | assumption | omega) ?_
          refine pg_iconst X (1) d_M_look_139 (by decide) ?_
          refine pg_iload_n X d_M_look_140 rfl ?_
          refine pg_ishl X d_M_look_141 ?_
          refine pg_ior X d_M_look_142 ?_
          have e : ∀ x : Int32, x ||| ((1 : Int32) <<< (nI t &&& 31)) = x ||| ((1 : Int32) <<< (nI t &&& 31)) := fun _ => rfl
          refine pm_ist X S (fun _ => rfl) (by decide) d_M_look_143 (by first | assumption | omega) (by first | assumption | omega) (fun π1 S => ?_)
          have R := S.1
          refine pg_aload_n X d_M_look_144 rfl ?_
          refine pg_getf X (f_M_51 hG) d_M_look_145 (px_rd_of (by first | exact R.o | exact R _ (by decide) | assumption)) rfl ?_
          refine pg_iload_n X d_M_look_148 rfl ?_
          refine pg_iconst X (-1) d_M_look_149 (by decide) ?_
          refine pm_ist X S (fun _ => rfl) (by decide) d_M_look_150 (by first | assumption | omega) (by first | assumption | omega) (fun π1 S => ?_)
          have R := S.1
          exact pg_vret X Y d_M_look_151 (by decide) (Nat.zero_le _) (Nat.zero_le _) (k _ S)
        · subst b1
          have b2' : ¬ lkC μ1 v t i := b2
          rw [px_if_f b2'] at k
          refine pg_if_eq X d_M_look_125 (fun c2 => ?_) (fun c2 => ?_)
          · exact pg_vret X Y d_M_look_151 (by decide) (Nat.zero_le _) (Nat.zero_le _) (k _ S)
          · exact absurd rfl c2
      · simp (disch := omega) only [Int32.lt_iff_toInt_lt, Int32.le_iff_toInt_le, nI_toInt, px_l0, px_l1, px_l2, px_l3, px_l4, px_l5, px_l6, px_l10, px_l11, px_l12, px_l16, px_l30, px_l100, px_l400] at c1
        omega
    | succ r ih =>
      intro i b x5 hi hb
      have go : ∀ b' x5, ((b' = 1 ∧ μ1 4 t ≤ μ1 13 v ∧ ∀ z, z < i + 1 → wth μ1 v z → rdy μ1 z t) ∨ (b' = 0 ∧ ¬ (μ1 4 t ≤ μ1 13 v ∧ ∀ z, z < i + 1 → wth μ1 v z → rdy μ1 z t))) → px_G Γ G (px_Q Γ G true K) true 0 0 117 [some (.ref zm), some (.int (nI v)), some (.int (nI t)), some (.int b), some (.int (nI i)), x5] [.int b'] π1 := by
        intro b' x5 hb'
        refine pg_istore3 X d_M_look_117 ?_
        refine pg_iinc4 X d_M_look_118 ?_
        refine pg_goto X d_M_look_121 ?_
        rw [nI_i1]
        exact ih (i + 1) b' x5 (by omega) hb'
      have zero : ∀ x5, ¬ (μ1 4 t ≤ μ1 13 v ∧ ∀ z, z < i + 1 → wth μ1 v z → rdy μ1 z t) → px_G Γ G (px_Q Γ G true K) true 0 0 116 [some (.ref zm), some (.int (nI v)), some (.int (nI t)), some (.int b), some (.int (nI i)), x5] [] π1 := by
        intro x5 q
        refine pg_iconst X (0) d_M_look_116 (by decide) ?_
        exact go 0 x5 (Or.inr ⟨rfl, q⟩)
      have one : ∀ x5, (μ1 4 t ≤ μ1 13 v ∧ ∀ z, z < i + 1 → wth μ1 v z → rdy μ1 z t) → px_G Γ G (px_Q Γ G true K) true 0 0 112 [some (.ref zm), some (.int (nI v)), some (.int (nI t)), some (.int b), some (.int (nI i)), x5] [] π1 := by
        intro x5 q
        refine pg_iconst X (1) d_M_look_112 (by decide) ?_
        refine pg_goto X d_M_look_113 ?_
        exact go 1 x5 (Or.inl ⟨rfl, q⟩)
      have ext : (μ1 4 t ≤ μ1 13 v ∧ ∀ z, z < i → wth μ1 v z → rdy μ1 z t) → (wth μ1 v i → rdy μ1 i t) → μ1 4 t ≤ μ1 13 v ∧ ∀ z, z < i + 1 → wth μ1 v z → rdy μ1 z t := fun q q2 => ⟨q.1, fun z hz => by
        rcases Nat.lt_succ_iff_lt_or_eq.mp hz with q3 | q3
        · exact q.2 z q3
        · rw [q3]; exact q2⟩
      have cut : (μ1 4 t ≤ μ1 13 v ∧ ∀ z, z < i + 1 → wth μ1 v z → rdy μ1 z t) → (μ1 4 t ≤ μ1 13 v ∧ ∀ z, z < i → wth μ1 v z → rdy μ1 z t) := fun q => ⟨q.1, fun z hz => q.2 z (by omega)⟩
      have fin : ∀ b5, ((b5 = 1 ∧ wth μ1 v i) ∨ (b5 = 0 ∧ ¬ wth μ1 v i)) → ∀ x5, px_G Γ G (px_Q Γ G true K) true 0 0 91 [some (.ref zm), some (.int (nI v)), some (.int (nI t)), some (.int b), some (.int (nI i)), x5] [.int b5] π1 := by
        intro b5 h5 x5
        refine pg_istore5 X d_M_look_91 ?_
        refine pg_iload_n X d_M_look_93 rfl ?_
        refine pg_if_eq X d_M_look_94 (fun c1 => ?_) (fun c1 => ?_)
        · rcases hb with ⟨q1, q2⟩ | ⟨q1, q2⟩
          · rw [q1] at c1
            exact absurd c1 (by decide)
          · exact zero _ (fun q => q2 (cut q))
        have hb1 : μ1 4 t ≤ μ1 13 v ∧ ∀ z, z < i → wth μ1 v z → rdy μ1 z t := hb.elim (fun q => q.2) (fun q => absurd q.1 c1)
        refine pg_iload X d_M_look_97 rfl ?_
        refine pg_if_eq X d_M_look_99 (fun c2 => ?_) (fun c2 => ?_)
        · rcases h5 with ⟨q1, q2⟩ | ⟨q1, q2⟩
          · rw [q1] at c2
            exact absurd c2 (by decide)
          · exact one _ (ext hb1 (fun q => absurd q q2))
        have hw : wth μ1 v i := h5.elim (fun q => q.2) (fun q => absurd q.1 c2)
        refine pg_aload_n X d_M_look_102 rfl ?_
        refine pg_iload X d_M_look_103 rfl ?_
        refine pg_iload_n X d_M_look_105 rfl ?_
        refine pc_V (ci := 4) (As := [_, _]) X Y d_M_look_106 (c_M_146 hG) (i_M_isReady hG) (v_M_isReady hG) (fun r h => by rw [hG.2] at h; cases h; rfl) rfl rfl (Nat.le_of_ble_eq_true rfl) (by rw [hR]; exact ⟨by decide, by decide⟩) (by decide) (by decide) (by rw [hR]; first | decide | (dsimp only [px_rm]; omega)) (by rw [hR]; first | decide | (dsimp only [px_rm]; omega)) (px_rd_of (by first | exact R.o | assumption)) (t_M_isReady A R (by omega) ht (fun q => ?_) (fun q => ?_))
        · refine pg_if_eq X d_M_look_109 (fun c3 => ?_) (fun c3 => ?_)
          · exact absurd c3 (by decide)
          · exact one _ (ext hb1 (fun _ => q))
        · refine pg_if_eq X d_M_look_109 (fun c3 => ?_) (fun c3 => ?_)
          · exact zero _ (fun q2 => q (q2.2 i (by omega) hw))
          · exact absurd rfl c3
      refine pg_iload X d_M_look_41 rfl ?_
      refine pg_aload_n X d_M_look_43 rfl ?_
      refine pg_getf X (f_M_98 hG) d_M_look_44 (px_rd_of (by first | exact R.o | exact R _ (by decide) | assumption)) rfl ?_
      rw [g8]
      refine pg_icmp_ge X d_M_look_47 (fun c1 => ?_) (fun c1 => ?_)
      · simp (disch := omega) only [Int32.lt_iff_toInt_lt, Int32.le_iff_toInt_le, nI_toInt, px_l0, px_l1, px_l2, px_l3, px_l4, px_l5, px_l6, px_l10, px_l11, px_l12, px_l16, px_l30, px_l100, px_l400] at c1
        omega
      have no : ¬ wth μ1 v i → px_G Γ G (px_Q Γ G true K) true 0 0 90 [some (.ref zm), some (.int (nI v)), some (.int (nI t)), some (.int b), some (.int (nI i)), x5] [] π1 := by
        intro q
        refine pg_iconst X (0) d_M_look_90 (by decide) ?_
        exact fin 0 (Or.inr ⟨rfl, q⟩) _
      refine pg_aload_n X d_M_look_50 rfl ?_
      refine pg_getf X (f_M_45 hG) d_M_look_51 (px_rd_of (by first | exact R.o | exact R _ (by decide) | assumption)) rfl ?_
      refine pg_iload X d_M_look_54 rfl ?_
      refine pg_ialdN X d_M_look_56 (px_rd_of (by first | exact R.o | exact R _ (by decide) | assumption)) (by first | assumption | omega) (by first | assumption | omega) ?_
      refine pg_iconst X (1) d_M_look_57 (by decide) ?_
      refine pg_icmp_ne X d_M_look_58 (fun c2 => ?_) (fun c2 => ?_)
      · exact no (fun q => c2 q.1)
      refine pg_aload_n X d_M_look_61 rfl ?_
      refine pg_getf X (f_M_42 hG) d_M_look_62 (px_rd_of (by first | exact R.o | exact R _ (by decide) | assumption)) rfl ?_
      refine pg_iload_n X d_M_look_65 rfl ?_
      refine pg_ialdN X d_M_look_66 (px_rd_of (by first | exact R.o | exact R _ (by decide) | assumption)) (by first | assumption | omega) (by first | assumption | omega) ?_
      refine pg_if_le X d_M_look_67 (fun c3 => ?_) (fun c3 => ?_)
      · exact no (fun q => q.2.1 c3)
      refine pg_aload_n X d_M_look_70 rfl ?_
      refine pg_getf X (f_M_42 hG) d_M_look_71 (px_rd_of (by first | exact R.o | exact R _ (by decide) | assumption)) rfl ?_
      refine pg_iload X d_M_look_74 rfl ?_
      refine pg_ialdN X d_M_look_76 (px_rd_of (by first | exact R.o | exact R _ (by decide) | assumption)) (by first | assumption | omega) (by first | assumption | omega) ?_
      refine pg_aload_n X d_M_look_77 rfl ?_
      refine pg_getf X (f_M_42 hG) d_M_look_78 (px_rd_of (by first | exact R.o | exact R _ (by decide) | assumption)) rfl ?_
      refine pg_iload_n X d_M_look_81 rfl ?_
      refine pg_ialdN X d_M_look_82 (px_rd_of (by first | exact R.o | exact R _ (by decide) | assumption)) (by first | assumption | omega) (by first | assumption | omega) ?_
      refine pg_icmp_ne X d_M_look_83 (fun c4 => ?_) (fun c4 => ?_)
      · exact no (fun q => c4 q.2.2)
      refine pg_iconst X (1) d_M_look_86 (by decide) ?_
      refine pg_goto X d_M_look_87 ?_
      exact fin 1 (Or.inl ⟨rfl, c2, c3, c4⟩) _
  refine pg_aload_n X d_M_look_17 rfl ?_
  refine pg_getf X (f_M_54 hG) d_M_look_18 (px_rd_of (by first | exact R.o | exact R _ (by decide) | assumption)) rfl ?_
  refine pg_iload_n X d_M_look_21 rfl ?_
  refine pg_ialdN X d_M_look_22 (px_rd_of (by first | exact R.o | exact R _ (by decide) | assumption)) (by first | assumption | omega) (by first | assumption | omega) ?_
  refine pg_aload_n X d_M_look_23 rfl ?_
  refine pg_getf X (f_M_20 hG) d_M_look_24 (px_rd_of (by first | exact R.o | exact R _ (by decide) | assumption)) rfl ?_
  refine pg_iload_n X d_M_look_27 rfl ?_
  refine pg_ialdN X d_M_look_28 (px_rd_of (by first | exact R.o | exact R _ (by decide) | assumption)) (by first | assumption | omega) (by first | assumption | omega) ?_
  refine pg_icmp_lt X d_M_look_29 (fun c1 => ?_) (fun c1 => ?_)
  · refine pg_iconst X (0) d_M_look_36 (by decide) ?_
    refine pg_istore3 X d_M_look_37 ?_
    refine pg_iconst X (0) d_M_look_38 (by decide) ?_
    refine pg_istore4 X d_M_look_39 ?_
    exact loop tl 0 0 none (by omega) (Or.inr ⟨rfl, fun q => k2_nlt q.1 c1⟩)
  · refine pg_iconst X (1) d_M_look_32 (by decide) ?_
    refine pg_goto X d_M_look_33 ?_
    refine pg_istore3 X d_M_look_37 ?_
    refine pg_iconst X (0) d_M_look_38 (by decide) ?_
    refine pg_istore4 X d_M_look_39 ?_
    exact loop tl 0 1 none (by omega) (Or.inl ⟨rfl, k2_le c1, fun z hz => absurd hz (Nat.not_lt_zero z)⟩)
end LOO
