/-! THE CLASS: escape, sum -/
section ESC
variable {l : Launch} {G : px_Cg} {π π0 π1 : px_H} {K : Option Value ⊕ String → px_H → Prop} {z n nt nd wd ht tl nw : Nat} {h w wt w' : Nat → Nat → Int32} {ta : Nat → Int32}
theorem cpI_v {k i : Nat} (hi : i < k) : px_it (cpI w) k wt (6 + i) = w (6 + i) := by
  induction k with
  | zero => exact absurd hi (Nat.not_lt_zero i)
  | succ k ih =>
    show upr (px_it (cpI w) k wt) (6 + k) (w (6 + k)) (6 + i) = _
    by_cases q : i = k
    · rw [q, upr_s]
    · rw [upr_n (by omega)]
      exact ih (by omega)
theorem cpW_v {i : Nat} (hi : i < tl) : cpW w wt tl (6 + i) = w (6 + i) := by
  unfold cpW
  rw [up2_r (by omega), up2_r (by omega), up2_r (by omega), up2_r (by omega), up2_r (by omega), upr_n (by omega), upr_n (by omega), upr_n (by omega), upr_n (by omega)]
  exact cpI_v hi
theorem cpW_0 : cpW w wt tl 0 0 = w 0 0 ∧ cpW w wt tl 0 1 = w 0 1 ∧ cpW w wt tl 0 2 = w 0 2 ∧ cpW w wt tl 0 3 = w 0 3 ∧ cpW w wt tl 0 4 = 0 := by
  unfold cpW
  refine ⟨?_, ?_, ?_, ?_, ?_⟩
  · rw [up2_v (by decide), up2_v (by decide), up2_v (by decide), up2_v (by decide), up2_s]
  · rw [up2_v (by decide), up2_v (by decide), up2_v (by decide), up2_s]
  · rw [up2_v (by decide), up2_v (by decide), up2_s]
  · rw [up2_v (by decide), up2_s]
  · rw [up2_s]
theorem cpW_r {r : Nat} (h1 : 1 ≤ r) (h4 : r ≤ 4) : cpW w wt tl r = w r := by
  unfold cpW
  rw [up2_r (by omega), up2_r (by omega), up2_r (by omega), up2_r (by omega), up2_r (by omega)]
  obtain rfl | rfl | rfl | rfl : r = 1 ∨ r = 2 ∨ r = 3 ∨ r = 4 := by omega
  · rw [upr_n (by decide), upr_n (by decide), upr_n (by decide), upr_s]
  · rw [upr_n (by decide), upr_n (by decide), upr_s]
  · rw [upr_n (by decide), upr_s]
  · rw [upr_s]
theorem cpW_F (F : WF w wd ht nt nd tl) : WF (cpW w wt tl) wd ht nt nd tl := ⟨cpW_0.1.trans F.1, F.2.1, fun i hi => by rw [cpW_v hi]; exact F.2.2 i hi⟩
theorem flW_F (F : WF w wd ht nt nd tl) : WF (flW w tl) wd ht nt nd tl := it_F (F.u0 (by decide)) (fun i w hi F => F.tr1) tl (Nat.le_refl _)
theorem WF.ur (F : WF w wd ht nt nd tl) {r : Nat} {f : Nat → Int32} (h0 : r ≠ 0) (h6 : r < 6) : WF (upr w r f) wd ht nt nd tl := ⟨by rw [upr_n (by omega)]; exact F.1, F.2.1, fun i hi => by rw [upr_n (by omega)]; exact F.2.2 i hi⟩
theorem gbW_F (B : HF h wd ht nt nd n) (F : WF w wd ht nt nd tl) : WF (gbW w tl) wd ht nt nd tl := by
  have Bw := B.2.2.2.2.1
  have Bh := B.2.2.2.2.2.1
  have F1 : WF (px_it gbI tl w) wd ht nt nd tl := it_F F (fun i w hi F => gbI_F F Bw.1 Bh.1) tl (Nat.le_refl _)
  exact ((((((F1.ur (by decide) (by decide)).ur (by decide) (by decide)).ur (by decide) (by decide)).ur (by decide) (by decide)).u0 (by decide)).u0 (by decide)).u0 (by decide)
noncomputable def esR (h : Nat → Nat → Int32) (wd ht nt nd tl : Nat) : Nat → Nat → (Nat → Nat → Int32) → Int32
  | 0, _, _ => -1
  | f + 1, s, w => if w 0 2 = 0 then nI s else esR h wd ht nt nd tl f (s + 1) (psW h wd ht nt nd tl w)
theorem t_V_escape (A : GA G) (R : RV z n h w wt ta π) (B : HF h wd ht nt nd n) (F : WF w wd ht nt nd tl)
    (k : ∀ wt' π1, SV z n h w wt' ta π π1 → K (.inl (some (.int (esR h wd ht nt nd tl 201 0 (flW (cpW w wt tl) tl))))) π1) :
    px_P l G y_V_escape b_V_escape 2 (some .int) (px_rm 5 114) true [.ref z] π K := by
  have hG := A.1
  have hZ := A.2.1
  refine px_P.intro (by decide) hZ (by simp [Value.category]) (Nat.le_of_ble_eq_true rfl) rfl ?_
  intro Γ hl hR X Y hnm hs hbel
  subst hl
  refine pg_w ?_
  have Bn := B.2.2.2.2.2.2.2.2.1
  have Bh := B.2.2.2.2.2.1
  have ho := R.1
  have hto := R.2.2.2.1.o
  refine pg_aload_n X d_V_escape_0 rfl ?_
  refine pg_getf X (f_V_32 hG) d_V_escape_1 (px_rd_of (by assumption)) rfl ?_
  refine pg_aload_n X d_V_escape_4 rfl ?_
  refine pg_getf X (f_V_28 hG) d_V_escape_5 (px_rd_of (by assumption)) rfl ?_
  refine pc_V (ci := 2) (As := [_]) X Y d_V_escape_8 (c_V_164 hG) (i_K_copyFrom hG) (v_K_copyFrom hG) (fun r h => by rw [hG.2] at h; cases h; rfl) rfl rfl (Nat.le_of_ble_eq_true rfl) (by rw [hR]; exact ⟨by decide, by decide⟩) (by decide) (by decide) (by rw [hR]; first | decide | (dsimp only [px_rm]; omega)) (by rw [hR]; first | decide | (dsimp only [px_rm]; omega)) (px_rd_of (by assumption)) (t_K_copyFrom A R.self.st R.2.2.1 (by omega) (by omega) F.1 F.2.1 (fun π2 S2 => ?_))
  have S := R.self.trial S2
  have F1 := cpW_F (wt := wt) F
  generalize cpW w wt tl = w1 at k S F1
  have ho := S.1.1
  have hto := S.1.2.2.2.1.o
  refine pg_aload_n X d_V_escape_11 rfl ?_
  refine pg_getf X (f_V_32 hG) d_V_escape_12 (px_rd_of (by assumption)) rfl ?_
  refine pc_V (ci := 2) (As := []) X Y d_V_escape_15 (c_V_168 hG) (i_K_startFleeing hG) (v_K_startFleeing hG) (fun r h => by rw [hG.2] at h; cases h; rfl) rfl rfl (Nat.le_of_ble_eq_true rfl) (by rw [hR]; exact ⟨by decide, by decide⟩) (by decide) (by decide) (by rw [hR]; first | decide | (dsimp only [px_rm]; omega)) (by rw [hR]; first | decide | (dsimp only [px_rm]; omega)) (px_rd_of (by assumption)) (t_K_startFleeing A S.st F1 (fun π3 S3 => ?_))
  have S := S.trial S3
  have F2 := flW_F F1
  generalize flW w1 tl = w2 at k S F2
  have loop : ∀ f s, s + f = 201 → ∀ π1 w2, WF w2 wd ht nt nd tl → SV z n h w w2 ta π π1 → (∀ wt' π1, SV z n h w wt' ta π π1 → K (.inl (some (.int (esR h wd ht nt nd tl f s w2)))) π1) → px_G Γ G (px_Q Γ G true K) true 0 0 20 [some (.ref z), some (.int (nI s))] [] π1 := by
    intro f
    induction f with
    | zero =>
      intro s hs π1 w2 F2 S k
      have e2 : (200 : Int32).toInt = 200 := by decide
      refine pg_iload_n X d_V_escape_20 rfl ?_
      refine pg_sipush X (200) d_V_escape_21 (by decide) ?_
      refine pg_icmp_gt X d_V_escape_24 (fun c1 => ?_) (fun c1 => ?_)
      · refine pg_iconst X (-1) d_V_escape_52 (by decide) ?_
        exact pg_iret X Y d_V_escape_53 rfl (by decide) (by rw [hR]; decide) (by rw [hR]; decide) (k _ _ S)
      · simp (disch := omega) only [Int32.lt_iff_toInt_lt, nI_toInt, e2] at c1
        omega
    | succ f ih =>
      intro s hs π1 w2 F2 S k
      have e2 : (200 : Int32).toInt = 200 := by decide
      have ho := S.1.1
      have hto := S.1.2.2.2.1.o
      refine pg_iload_n X d_V_escape_20 rfl ?_
      refine pg_sipush X (200) d_V_escape_21 (by decide) ?_
      refine pg_icmp_gt X d_V_escape_24 (fun c1 => ?_) (fun c1 => ?_)
      · simp (disch := omega) only [Int32.lt_iff_toInt_lt, nI_toInt, e2] at c1
        omega
      refine pg_aload_n X d_V_escape_27 rfl ?_
      refine pg_getf X (f_V_32 hG) d_V_escape_28 (px_rd_of (by assumption)) rfl ?_
      refine pg_getf X (f_V_121 hG) d_V_escape_31 (px_rd_of (by assumption)) rfl ?_
      refine pg_if_ne X d_V_escape_34 (fun c2 => ?_) (fun c2 => ?_)
      · simp only [esR, if_neg c2] at k
        refine pg_aload_n X d_V_escape_39 rfl ?_
        refine pg_getf X (f_V_32 hG) d_V_escape_40 (px_rd_of (by assumption)) rfl ?_
        refine pc_V (ci := 2) (As := []) X Y d_V_escape_43 (c_V_118 hG) (i_K_passSecond hG) (v_K_passSecond hG) (fun r h => by rw [hG.2] at h; cases h; rfl) rfl rfl (Nat.le_of_ble_eq_true rfl) (by rw [hR]; exact ⟨by decide, by decide⟩) (by decide) (by decide) (by rw [hR]; first | decide | (dsimp only [px_rm]; omega)) (by rw [hR]; first | decide | (dsimp only [px_rm]; omega)) (px_rd_of (by assumption)) (t_K_passSecond A S.st B F2 (fun π2 S2 => ?_))
        refine pg_iinc1 X d_V_escape_46 ?_
        refine pg_goto X d_V_escape_49 ?_
        rw [nI_i1]
        exact ih (s + 1) (by omega) π2 _ (psW_F B F2) (S.trial S2) k
      · simp only [esR, if_pos c2] at k
        refine pg_iload_n X d_V_escape_37 rfl ?_
        exact pg_iret X Y d_V_escape_38 rfl (by decide) (by rw [hR]; decide) (by rw [hR]; decide) (k _ _ S)
  refine pg_iconst X (0) d_V_escape_18 (by decide) ?_
  refine pg_istore1 X d_V_escape_19 ?_
  exact loop 201 0 rfl _ w2 F2 S k
noncomputable def sqL (h : Nat → Nat → Int32) (wd ht nt nd tl : Nat) (due : Int32) : Nat → (Nat → Nat → Int32) → (Nat → Nat → Int32)
  | 0, w => w
  | f + 1, w => if w 0 3 < due then sqL h wd ht nt nd tl due f (psW h wd ht nt nd tl w) else w
def sqS (ta dw : Nat → Int32) : Nat → Int32
  | 0 => 0
  | t + 1 => if ta t = -1 then sqS ta dw t else sqS ta dw t + (dw t - ta t) * (dw t - ta t)
noncomputable def sqV (h w wt : Nat → Nat → Int32) (ta : Nat → Int32) (wd ht nt nd tl nw : Nat) : Int32 := sqS ta (sqL h wd ht nt nd tl (dueC w (w 0 1) tl) nw (gbW (cpW w wt tl) tl) 4) nt
theorem t_V_squaresAnew (A : GA G) (R : RV z n h w wt ta π) (B : HF h wd ht nt nd n) (F : WF w wd ht nt nd tl) (hnw : w 0 1 = nI nw) (hnw2 : nw ≤ 400)
    (k : ∀ wt' π1, SV z n h w wt' ta π π1 → K (.inl (some (.int (sqV h w wt ta wd ht nt nd tl nw)))) π1) :
    px_P l G y_V_squaresAnew b_V_squaresAnew 5 (some .int) (px_rm 5 114) true [.ref z] π K := by
  have hG := A.1
  have hZ := A.2.1
  refine px_P.intro (by decide) hZ (by simp [Value.category]) (Nat.le_of_ble_eq_true rfl) rfl ?_
  intro Γ hl hR X Y hnm hs hbel
  subst hl
  refine pg_w ?_
  have Bt := B.2.2.2.2.2.2.1
  have Bn := B.2.2.2.2.2.2.2.2.1
  have Bh := B.2.2.2.2.2.1
  unfold sqV at k
  have ho := R.1
  have hto := R.2.2.2.1.o
  refine pg_aload_n X d_V_squaresAnew_0 rfl ?_
  refine pg_getf X (f_V_32 hG) d_V_squaresAnew_1 (px_rd_of (by assumption)) rfl ?_
  refine pg_aload_n X d_V_squaresAnew_4 rfl ?_
  refine pg_getf X (f_V_28 hG) d_V_squaresAnew_5 (px_rd_of (by assumption)) rfl ?_
  refine pc_V (ci := 2) (As := [_]) X Y d_V_squaresAnew_8 (c_V_164 hG) (i_K_copyFrom hG) (v_K_copyFrom hG) (fun r h => by rw [hG.2] at h; cases h; rfl) rfl rfl (Nat.le_of_ble_eq_true rfl) (by rw [hR]; exact ⟨by decide, by decide⟩) (by decide) (by decide) (by rw [hR]; first | decide | (dsimp only [px_rm]; omega)) (by rw [hR]; first | decide | (dsimp only [px_rm]; omega)) (px_rd_of (by assumption)) (t_K_copyFrom A R.self.st R.2.2.1 (by omega) (by omega) F.1 F.2.1 (fun π2 S2 => ?_))
  have S := R.self.trial S2
  have F1 := cpW_F (wt := wt) F
  generalize cpW w wt tl = w1 at k S F1
  have ho := S.1.1
  have hto := S.1.2.2.2.1.o
  refine pg_aload_n X d_V_squaresAnew_11 rfl ?_
  refine pg_getf X (f_V_32 hG) d_V_squaresAnew_12 (px_rd_of (by assumption)) rfl ?_
  refine pc_V (ci := 2) (As := []) X Y d_V_squaresAnew_15 (c_V_214 hG) (i_K_goBackToStart hG) (v_K_goBackToStart hG) (fun r h => by rw [hG.2] at h; cases h; rfl) rfl rfl (Nat.le_of_ble_eq_true rfl) (by rw [hR]; exact ⟨by decide, by decide⟩) (by decide) (by decide) (by rw [hR]; first | decide | (dsimp only [px_rm]; omega)) (by rw [hR]; first | decide | (dsimp only [px_rm]; omega)) (px_rd_of (by assumption)) (t_K_goBackToStart A S.st B F1 (fun π3 S3 => ?_))
  have S := S.trial S3
  have F2 := gbW_F B F1
  generalize gbW w1 tl = w2 at k S F2
  have ho := S.1.1
  have hwo := S.1.2.2.1.o
  refine pg_aload_n X d_V_squaresAnew_18 rfl ?_
  refine pg_getf X (f_V_28 hG) d_V_squaresAnew_19 (px_rd_of (by assumption)) rfl ?_
  refine pg_aload_n X d_V_squaresAnew_22 rfl ?_
  refine pg_getf X (f_V_28 hG) d_V_squaresAnew_23 (px_rd_of (by assumption)) rfl ?_
  refine pg_getf X (f_V_103 hG) d_V_squaresAnew_26 (px_rd_of (by assumption)) rfl ?_
  refine pc_V (ci := 2) (As := [_]) X Y d_V_squaresAnew_29 (c_V_182 hG) (i_K_dueBefore hG) (v_K_dueBefore hG) (fun r h => by rw [hG.2] at h; cases h; rfl) rfl rfl (Nat.le_of_ble_eq_true rfl) (by rw [hR]; exact ⟨by decide, by decide⟩) (by decide) (by decide) (by rw [hR]; first | decide | (dsimp only [px_rm]; omega)) (by rw [hR]; first | decide | (dsimp only [px_rm]; omega)) (px_rd_of (by assumption)) (t_K_dueBefore A S.1.2.2.1 F.1 F.2.1 ?_)
  generalize dueC w (w 0 1) tl = due at k ⊢
  have fin : ∀ π1 w3, SV z n h w w3 ta π π1 → (∀ wt' π1, SV z n h w wt' ta π π1 → K (.inl (some (.int (sqS ta (w3 4) nt)))) π1) → ∀ i x y, px_G Γ G (px_Q Γ G true K) true 0 0 70 [some (.ref z), some (.int due), i, x, y] [] π1 := by
    intro π1 w3 S k i x y
    have ho := S.1.1
    have hho := S.1.2.1.o
    rw [B.2.2.1] at hho
    have hto := S.1.2.2.2.1.o
    have hdn := S.1.2.2.2.1.dn
    have hta := S.1.2.2.2.2
    refine pg_iconst X (0) d_V_squaresAnew_70 (by decide) ?_
    refine pg_istore2 X d_V_squaresAnew_71 ?_
    refine pg_iconst X (0) d_V_squaresAnew_72 (by decide) ?_
    refine pg_istore3 X d_V_squaresAnew_73 ?_
    have loop : ∀ f t y, t + f = nt → px_G Γ G (px_Q Γ G true K) true 0 0 74 [some (.ref z), some (.int due), some (.int (sqS ta (w3 4) t)), some (.int (nI t)), y] [] π1 := by
      intro f
      induction f with
      | zero =>
        intro t y ht
        have et : t = nt := by omega
        subst et
        refine pg_iload_n X d_V_squaresAnew_74 rfl ?_
        refine pg_aload_n X d_V_squaresAnew_75 rfl ?_
        refine pg_getf X (f_V_19 hG) d_V_squaresAnew_76 (px_rd_of (by assumption)) rfl ?_
        refine pg_getf X (f_V_71 hG) d_V_squaresAnew_79 (px_rd_of (by assumption)) rfl ?_
        refine pg_icmp_ge X d_V_squaresAnew_82 (fun c1 => ?_) (fun c1 => ?_)
        · refine pg_iload_n X d_V_squaresAnew_127 rfl ?_
          exact pg_iret X Y d_V_squaresAnew_128 rfl (by decide) (by rw [hR]; decide) (by rw [hR]; decide) (k _ _ S)
        · simp (disch := omega) only [Int32.lt_iff_toInt_lt, Int32.le_iff_toInt_le, nI_toInt, px_l0, px_l1, px_l2, px_l3, px_l4, px_l5, px_l6, px_l10, px_l11, px_l12, px_l16, px_l30, px_l100, px_l400] at c1
          omega
      | succ f ih =>
        intro t y ht
        refine pg_iload_n X d_V_squaresAnew_74 rfl ?_
        refine pg_aload_n X d_V_squaresAnew_75 rfl ?_
        refine pg_getf X (f_V_19 hG) d_V_squaresAnew_76 (px_rd_of (by assumption)) rfl ?_
        refine pg_getf X (f_V_71 hG) d_V_squaresAnew_79 (px_rd_of (by assumption)) rfl ?_
        refine pg_icmp_ge X d_V_squaresAnew_82 (fun c1 => ?_) (fun c1 => ?_)
        · simp (disch := omega) only [Int32.lt_iff_toInt_lt, Int32.le_iff_toInt_le, nI_toInt, px_l0, px_l1, px_l2, px_l3, px_l4, px_l5, px_l6, px_l10, px_l11, px_l12, px_l16, px_l30, px_l100, px_l400] at c1
          omega
        refine pg_aload_n X d_V_squaresAnew_85 rfl ?_
        refine pg_getf X (f_V_35 hG) d_V_squaresAnew_86 (px_rd_of (by assumption)) rfl ?_
        refine pg_iload_n X d_V_squaresAnew_89 rfl ?_
        refine pg_ialdN X d_V_squaresAnew_90 (px_rd_of (by assumption)) (by first | assumption | omega) (by first | assumption | omega) ?_
        refine pg_iconst X (-1) d_V_squaresAnew_91 (by decide) ?_
        refine pg_icmp_eq X d_V_squaresAnew_92 (fun c2 => ?_) (fun c2 => ?_)
        · refine pg_iinc3 X d_V_squaresAnew_121 ?_
          refine pg_goto X d_V_squaresAnew_124 ?_
          rw [nI_i1]
          have h7 := ih (t + 1) y (by omega)
          rw [sqS, if_pos c2] at h7
          exact h7
        · refine pg_aload_n X d_V_squaresAnew_95 rfl ?_
          refine pg_getf X (f_V_32 hG) d_V_squaresAnew_96 (px_rd_of (by assumption)) rfl ?_
          refine pg_getf X (f_V_155 hG) d_V_squaresAnew_99 (px_rd_of (by assumption)) rfl ?_
          refine pg_iload_n X d_V_squaresAnew_102 rfl ?_
          refine pg_ialdN X d_V_squaresAnew_103 (px_rd_of (by assumption)) (by first | assumption | omega) (by first | assumption | omega) ?_
          refine pg_aload_n X d_V_squaresAnew_104 rfl ?_
          refine pg_getf X (f_V_35 hG) d_V_squaresAnew_105 (px_rd_of (by assumption)) rfl ?_
          refine pg_iload_n X d_V_squaresAnew_108 rfl ?_
          refine pg_ialdN X d_V_squaresAnew_109 (px_rd_of (by assumption)) (by first | assumption | omega) (by first | assumption | omega) ?_
          refine pg_isub X d_V_squaresAnew_110 ?_
          refine pg_istore4 X d_V_squaresAnew_111 ?_
          refine pg_iload_n X d_V_squaresAnew_113 rfl ?_
          refine pg_iload X d_V_squaresAnew_114 rfl ?_
          refine pg_iload X d_V_squaresAnew_116 rfl ?_
          refine pg_imul X d_V_squaresAnew_118 ?_
          refine pg_iadd X d_V_squaresAnew_119 ?_
          refine pg_istore2 X d_V_squaresAnew_120 ?_
          refine pg_iinc3 X d_V_squaresAnew_121 ?_
          refine pg_goto X d_V_squaresAnew_124 ?_
          rw [nI_i1]
          have h7 := ih (t + 1) (some (.int (w3 4 t - ta t))) (by omega)
          rw [sqS, if_neg c2] at h7
          exact h7
    exact loop nt 0 y (by omega)
  have loop : ∀ f i, i + f = nw → ∀ π1 w2, WF w2 wd ht nt nd tl → SV z n h w w2 ta π π1 → (∀ wt' π1, SV z n h w wt' ta π π1 → K (.inl (some (.int (sqS ta (sqL h wd ht nt nd tl due f w2 4) nt)))) π1) → px_G Γ G (px_Q Γ G true K) true 0 0 35 [some (.ref z), some (.int due), some (.int (nI i)), none, none] [] π1 := by
    intro f
    induction f with
    | zero =>
      intro i hi π1 w2 F2 S k
      have ho := S.1.1
      have hwo := S.1.2.2.1.o
      rw [hnw] at hwo
      refine pg_iload_n X d_V_squaresAnew_35 rfl ?_
      refine pg_aload_n X d_V_squaresAnew_36 rfl ?_
      refine pg_getf X (f_V_28 hG) d_V_squaresAnew_37 (px_rd_of (by assumption)) rfl ?_
      refine pg_getf X (f_V_103 hG) d_V_squaresAnew_40 (px_rd_of (by assumption)) rfl ?_
      refine pg_icmp_ge X d_V_squaresAnew_43 (fun c1 => ?_) (fun c1 => ?_)
      · exact fin π1 w2 S k _ _ _
      · simp (disch := omega) only [Int32.lt_iff_toInt_lt, Int32.le_iff_toInt_le, nI_toInt, px_l0, px_l1, px_l2, px_l3, px_l4, px_l5, px_l6, px_l10, px_l11, px_l12, px_l16, px_l30, px_l100, px_l400] at c1
        omega
    | succ f ih =>
      intro i hi π1 w2 F2 S k
      have ho := S.1.1
      have hwo := S.1.2.2.1.o
      rw [hnw] at hwo
      have hto := S.1.2.2.2.1.o
      refine pg_iload_n X d_V_squaresAnew_35 rfl ?_
      refine pg_aload_n X d_V_squaresAnew_36 rfl ?_
      refine pg_getf X (f_V_28 hG) d_V_squaresAnew_37 (px_rd_of (by assumption)) rfl ?_
      refine pg_getf X (f_V_103 hG) d_V_squaresAnew_40 (px_rd_of (by assumption)) rfl ?_
      refine pg_icmp_ge X d_V_squaresAnew_43 (fun c1 => ?_) (fun c1 => ?_)
      · simp (disch := omega) only [Int32.lt_iff_toInt_lt, Int32.le_iff_toInt_le, nI_toInt, px_l0, px_l1, px_l2, px_l3, px_l4, px_l5, px_l6, px_l10, px_l11, px_l12, px_l16, px_l30, px_l100, px_l400] at c1
        omega
      refine pg_aload_n X d_V_squaresAnew_46 rfl ?_
      refine pg_getf X (f_V_32 hG) d_V_squaresAnew_47 (px_rd_of (by assumption)) rfl ?_
      refine pg_getf X (f_V_185 hG) d_V_squaresAnew_50 (px_rd_of (by assumption)) rfl ?_
      refine pg_iload_n X d_V_squaresAnew_53 rfl ?_
      refine pg_icmp_ge X d_V_squaresAnew_54 (fun c2 => ?_) (fun c2 => ?_)
      · simp only [sqL, if_neg (k2_nlt c2)] at k
        exact fin π1 w2 S k _ _ _
      · simp only [sqL, if_pos (k2_lt c2)] at k
        refine pg_aload_n X d_V_squaresAnew_57 rfl ?_
        refine pg_getf X (f_V_32 hG) d_V_squaresAnew_58 (px_rd_of (by assumption)) rfl ?_
        refine pc_V (ci := 2) (As := []) X Y d_V_squaresAnew_61 (c_V_118 hG) (i_K_passSecond hG) (v_K_passSecond hG) (fun r h => by rw [hG.2] at h; cases h; rfl) rfl rfl (Nat.le_of_ble_eq_true rfl) (by rw [hR]; exact ⟨by decide, by decide⟩) (by decide) (by decide) (by rw [hR]; first | decide | (dsimp only [px_rm]; omega)) (by rw [hR]; first | decide | (dsimp only [px_rm]; omega)) (px_rd_of (by assumption)) (t_K_passSecond A S.st B F2 (fun π2 S2 => ?_))
        refine pg_iinc2 X d_V_squaresAnew_64 ?_
        refine pg_goto X d_V_squaresAnew_67 ?_
        rw [nI_i1]
        exact ih (i + 1) (by omega) π2 _ (psW_F B F2) (S.trial S2) k
  refine pg_istore1 X d_V_squaresAnew_32 ?_
  refine pg_iconst X (0) d_V_squaresAnew_33 (by decide) ?_
  refine pg_istore2 X d_V_squaresAnew_34 ?_
  exact loop nw 0 (by omega) _ w2 F2 S k
theorem t_V_sum (A : GA G) (R : RV z n h w wt ta π) (B : HF h wd ht nt nd n) (F : WF w wd ht nt nd tl) (hnw : w 0 1 = nI nw) (hnw2 : nw ≤ 400)
    (k : ∀ wt' π1, SV z n h w wt' ta π π1 → K (.inl (some (.int (sqV h w wt ta wd ht nt nd tl nw)))) π1) :
    px_P l G y_V_sum b_V_sum 1 (some .int) (px_rm 6 138) true [.ref z] π K := by
  have hG := A.1
  have hZ := A.2.1
  refine px_P.intro (by decide) hZ (by simp [Value.category]) (Nat.le_of_ble_eq_true rfl) rfl ?_
  intro Γ hl hR X Y hnm hs hbel
  subst hl
  refine pg_w ?_
  have ho := R.1
  refine pg_aload_n X d_V_sum_0 rfl ?_
  refine pc_V (ci := 3) (As := []) X Y d_V_sum_1 (c_V_173 hG) (i_V_squaresAnew hG) (v_V_squaresAnew hG) (fun r h => by rw [hG.2] at h; cases h; rfl) rfl rfl (Nat.le_of_ble_eq_true rfl) (by rw [hR]; exact ⟨by decide, by decide⟩) (by decide) (by decide) (by rw [hR]; first | decide | (dsimp only [px_rm]; omega)) (by rw [hR]; first | decide | (dsimp only [px_rm]; omega)) (px_rd_of (by assumption)) (t_V_squaresAnew A R B F hnw hnw2 (fun wt' π1 S => ?_))
  exact pg_iret X Y d_V_sum_4 rfl (by decide) (by rw [hR]; decide) (by rw [hR]; decide) (k wt' π1 S)
end ESC
