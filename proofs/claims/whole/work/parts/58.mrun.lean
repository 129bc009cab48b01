/-! THE MODEL: run -/
section MRU
variable {l : Launch} {G : px_Cg} {π π0 : px_H} {K : Option Value ⊕ String → px_H → Prop} {zm n nt nd wd ht tl nw : Nat} {μ μ' μ2 h w : Nat → Nat → Int32} {b : Bool} {y : Int32}
/-- what a run leaves of the model -/
def FrR (μ μ' : Nat → Nat → Int32) (tl : Nat) : Prop := (∀ r, 1 ≤ r → r ≤ 9 → μ' r = μ r) ∧ (∀ j, 1 ≤ j → j ≤ 8 → μ' 0 j = μ 0 j) ∧ ∀ r v, tl ≤ v → 10 ≤ r → r ≤ 14 → μ' r v = μ r v
theorem FrR.rf : FrR μ μ tl := ⟨fun _ _ _ => rfl, fun _ _ _ => rfl, fun _ _ _ _ _ => rfl⟩
theorem FrR.tr (a : FrR μ μ' tl) (c : FrR μ' μ2 tl) : FrR μ μ2 tl := ⟨fun r h1 h2 => (c.1 r h1 h2).trans (a.1 r h1 h2), fun j h1 h2 => (c.2.1 j h1 h2).trans (a.2.1 j h1 h2), fun r v h1 h2 h3 => (c.2.2 r v h1 h2 h3).trans (a.2.2 r v h1 h2 h3)⟩
theorem FrM.r (R : FrM μ μ' tl) : FrR μ μ' tl := ⟨fun r h1 h2 => R.1 r (Or.inl (by omega)), fun j _ _ => by rw [R.1 0 (by decide)], R.2⟩
theorem FrR.s0 {j : Nat} (hj : j = 0 ∨ j = 9) : FrR μ (up2 μ 0 j y) tl := ⟨fun r h1 h2 => up2_r (by omega), fun i h1 h2 => up2_n (by omega), fun r v h1 h2 h3 => up2_n (by omega)⟩
theorem FrR.ur {r : Nat} {f : Nat → Int32} (hr : 15 ≤ r) : FrR μ (upr μ r f) tl := ⟨fun r' h1 h2 => upr_n (by omega), fun i h1 h2 => by rw [upr_n (by omega)], fun r' v h1 h2 h3 => by rw [upr_n (by omega)]⟩
theorem CH.r (C : CH h μ wd ht nt nd) (R : FrR μ μ' tl) : CH h μ' wd ht nt nd := by
  obtain ⟨c1, c2, c3, c4, c5, c6, c7, c8, c9, c10⟩ := C
  refine ⟨by rw [R.2.1 1 (by decide) (by decide)]; exact c1, by rw [R.2.1 2 (by decide) (by decide)]; exact c2, by rw [R.2.1 3 (by decide) (by decide)]; exact c3, by rw [R.2.1 4 (by decide) (by decide)]; exact c4, by rw [R.2.1 5 (by decide) (by decide)]; exact c5, by rw [R.2.1 6 (by decide) (by decide)]; exact c6, by rw [R.2.1 7 (by decide) (by decide)]; exact c7, by rw [R.1 1 (by decide) (by decide)]; exact c8, by rw [R.1 2 (by decide) (by decide), R.1 3 (by decide) (by decide), R.1 4 (by decide) (by decide)]; exact c9, by rw [R.1 6 (by decide) (by decide)]; exact c10⟩
theorem CW.s0 {j : Nat} (W : CW h w μ nd tl) (hj : j = 0 ∨ j = 9) : CW h w (up2 μ 0 j y) nd tl := W.keep (fun _ => rfl) rfl (up2_n (by omega)) (fun r a c => up2_r (by omega))
theorem CW.ur {r : Nat} {f : Nat → Int32} (W : CW h w μ nd tl) (hr : 15 ≤ r) : CW h w (upr μ r f) nd tl := W.keep (fun _ => rfl) rfl (by rw [upr_n (by omega)]) (fun r' a c => upr_n (by omega))
theorem CC.s0 {j : Nat} (Q : CC b w μ ht) : CC b w (up2 μ 0 j y) ht := Q.mu (by decide) (by decide) (by decide)
theorem CC.ur {r : Nat} {f : Nat → Int32} (Q : CC b w μ ht) (hr : 20 ≤ r) : CC b w (upr μ r f) ht := by
  intro hb
  rw [upr_n (by omega), upr_n (by omega), upr_n (by omega)]
  exact Q hb
theorem psW_I (I : INV w wd ht nt nd tl) (B : HG h wd ht nt nd n) (HI : hIN h nt) : INV (psW h wd ht nt nd tl w) wd ht nt nd tl := by
  have p1 : ∀ i, i ≤ tl → INV (px_it (psI h wd ht nt nd tl) i w) wd ht nt nd tl := by
    intro i
    induction i with
    | zero => intro _; exact I
    | succ i ih => intro hi; rw [it_s]; exact (ih (by omega)).ps B HI (by omega)
  have p2 : ∀ i, INV (px_it ssI i (px_it (psI h wd ht nt nd tl) tl w)) wd ht nt nd tl := by
    intro i
    induction i with
    | zero => exact p1 tl (Nat.le_refl tl)
    | succ i ih =>
      rw [it_s]
      unfold ssI
      split
      · exact ih.row
      · exact ih
  unfold psW
  exact (p2 tl).now
theorem psW_k : psW h wd ht nt nd tl w 0 1 = w 0 1 + 1 ∧ psW h wd ht nt nd tl w 0 4 = w 0 4 ∧ ∀ u j, j < 4 → psW h wd ht nt nd tl w (6 + u) j = w (6 + u) j := by
  have p1 : ∀ i, kpt w (px_it (psI h wd ht nt nd tl) i w) := by
    intro i
    induction i with
    | zero => exact kpt.rf
    | succ i ih => rw [it_s]; exact ih.tr kpt.ps
  have p2 : ∀ i, kpt w (px_it ssI i (px_it (psI h wd ht nt nd tl) tl w)) := by
    intro i
    induction i with
    | zero => exact p1 tl
    | succ i ih =>
      rw [it_s]
      unfold ssI
      split
      · exact ih.tr (kpt.aa (by decide))
      · exact ih
  unfold psW
  refine ⟨by rw [up2_s, (p2 tl).2.1], by rw [up2_n (by decide), (p2 tl).2.2.1], fun u j hj => ?_⟩
  rw [up2_r (by omega)]
  exact (p2 tl).2.2.2 u j hj
theorem rnW_I (I : INV w wd ht nt nd tl) (B : HG h wd ht nt nd n) (HI : hIN h nt) : ∀ s, INV (rnW h wd ht nt nd tl s w) wd ht nt nd tl
  | 0 => I
  | s + 1 => psW_I (rnW_I I B HI s) B HI
theorem rnW_k : ∀ s, (∀ nw, w 0 1 = nI nw → rnW h wd ht nt nd tl s w 0 1 = nI (nw + s)) ∧ rnW h wd ht nt nd tl s w 0 4 = w 0 4 ∧ ∀ u j, j < 4 → rnW h wd ht nt nd tl s w (6 + u) j = w (6 + u) j
  | 0 => ⟨fun _ q => q, rfl, fun _ _ _ => rfl⟩
  | s + 1 => by
    obtain ⟨a, c, d⟩ := rnW_k s
    obtain ⟨a2, c2, d2⟩ := psW_k (h := h) (wd := wd) (ht := ht) (nt := nt) (nd := nd) (tl := tl) (w := rnW h wd ht nt nd tl s w)
    refine ⟨fun nw q => ?_, ?_, fun u j hj => ?_⟩
    · show psW h wd ht nt nd tl (rnW h wd ht nt nd tl s w) 0 1 = _
      rw [a2, a nw q]
      exact nI_1 _
    · show psW h wd ht nt nd tl (rnW h wd ht nt nd tl s w) 0 4 = _
      rw [c2, c]
    · show psW h wd ht nt nd tl (rnW h wd ht nt nd tl s w) (6 + u) j = _
      rw [d2 u j hj, d u j hj]
theorem t_M_run (A : GA G) (S : SM zm μ π0 π) (C : CH h μ wd ht nt nd) (B : HG h wd ht nt nd n) (HH : HS h nt) (I : INV w wd ht nt nd tl) (W : CW h w μ nd tl) (Qc : CC b w μ ht) (h04 : w 0 4 = 0) (h9 : μ 0 9 = w 0 1) (hnw : w 0 1 = nI nw) (hnw2 : nw ≤ 400) {x : Int32}
    (k1 : ∀ s, x = nI s → 1 ≤ s → s ≤ 100 → nw + s ≤ 400 → ∀ μ' π1, CW h (rnW h wd ht nt nd tl s w) μ' nd tl → CC b (rnW h wd ht nt nd tl s w) μ' ht → μ' 0 9 = rnW h wd ht nt nd tl s w 0 1 → μ' 0 0 = 0 → FrR μ μ' tl → SM zm μ' π0 π1 → K (.inl (some (.int (rnW h wd ht nt nd tl s w 0 2)))) π1)
    (k0 : (¬ ∃ s, x = nI s ∧ 1 ≤ s ∧ s ≤ 100 ∧ nw + s ≤ 400) → ∀ π1, SM zm (up2 μ 0 0 1) π0 π1 → K (.inl (some (.int 0))) π1) :
    px_P l G y_M_run b_M_run 3 (some .int) (px_rm 6 153) true [.ref zm, .int x] π K := by
  have hG := A.1
  have hZ := A.2.1
  refine px_P.intro (by decide) hZ (by simp [Value.category]) (Nat.le_of_ble_eq_true rfl) rfl ?_
  intro Γ hl hR X Y hnm hs hbel
  subst hl
  refine pg_w ?_
  have R := S.1
  have htl := I.1.2.1
  have bad : (¬ ∃ s, x = nI s ∧ 1 ≤ s ∧ s ≤ 100 ∧ nw + s ≤ 400) → px_G Γ G (px_Q Γ G true K) true 0 0 27 [some (.ref zm), some (.int x), none] [.ref zm] π := by
    intro q
    refine pg_iconst X (0) d_M_run_27 (by decide) ?_
    refine pg_iconst X (1) d_M_run_28 (by decide) ?_
    refine pg_iconst X (1) d_M_run_29 (by decide) ?_
    refine pc_V (ci := 4) (As := [_, _, _]) X Y d_M_run_30 (c_M_105 hG) (i_M_goes hG) (v_M_goes hG) (fun r h => by rw [hG.2] at h; cases h; rfl) rfl rfl (Nat.le_of_ble_eq_true rfl) (by rw [hR]; exact ⟨by decide, by decide⟩) (by decide) (by decide) (by rw [hR]; first | decide | (dsimp only [px_rm]; omega)) (by rw [hR]; first | decide | (dsimp only [px_rm]; omega)) (px_rd_of (by first | exact R.o | assumption)) (t_M_goes A S (fun q2 => absurd rfl q2.1) (fun q2 π1 S1 => ?_))
    refine pg_if_ne X d_M_run_33 (fun c3 => ?_) (fun c3 => ?_)
    · exact absurd rfl c3
    refine pg_iconst X (0) d_M_run_36 (by decide) ?_
    exact pg_iret X Y d_M_run_37 rfl (by decide) (Nat.zero_le _) (Nat.zero_le _) (k0 q _ S1)
  refine pg_aload_n X d_M_run_0 rfl ?_
  refine pg_iload_n X d_M_run_1 rfl ?_
  refine pg_iconst X (1) d_M_run_2 (by decide) ?_
  refine pg_bipush X (100) d_M_run_3 (by decide) ?_
  refine pc_S (As := [_, _, _]) X Y d_M_run_5 (c_M_94 hG) (s_M_within hG) rfl rfl (Nat.le_of_ble_eq_true rfl) (by rw [hR]; exact ⟨by decide, by decide⟩) (by decide) (by decide) (by rw [hR]; first | decide | (dsimp only [px_rm]; omega)) (by rw [hR]; first | decide | (dsimp only [px_rm]; omega)) (t_M_within A (fun q1 => ?_) (fun q1 => ?_))
  · obtain ⟨s, hs1, es⟩ := nI_of2 (x := x) (M := 100) (n := 100) rfl (fun q => k2_nlt q1.1 (Int32.lt_trans q (by decide))) q1.2
    have hs0 : 1 ≤ s := by
      have := q1.1
      rw [es] at this
      simp (disch := omega) only [Int32.lt_iff_toInt_lt, Int32.le_iff_toInt_le, nI_toInt, px_l0, px_l1, px_l2, px_l3, px_l4, px_l5, px_l6, px_l10, px_l11, px_l12, px_l16, px_l30, px_l100, px_l400] at this
      omega
    refine pg_if_eq X d_M_run_8 (fun c1 => ?_) (fun c1 => ?_)
    · exact absurd c1 (by decide)
    refine pg_aload_n X d_M_run_11 rfl ?_
    refine pg_getf X (f_M_119 hG) d_M_run_12 (px_rd_of (by first | exact R.o | exact R _ (by decide) | assumption)) rfl ?_
    refine pg_iload_n X d_M_run_15 rfl ?_
    refine pg_iadd X d_M_run_16 ?_
    refine pg_sipush X (400) d_M_run_17 (by decide) ?_
    rw [h9, hnw, es]
    refine pg_icmp_gt X d_M_run_20 (fun c2 => ?_) (fun c2 => ?_)
    · rw [← es]
      refine bad (fun ⟨s2, e, g1, g2, g3⟩ => ?_)
      rw [es] at e
      have := (nI_eq (by omega) (by omega)).mp e
      subst this
      exact k2_nle c2 ((px_400 hnw2 hs1).mpr g3)
    · have hsum := (px_400 hnw2 hs1).mp (k2_le c2)
      have k1 := k1 s es hs0 hs1 hsum
      refine pg_iconst X (1) d_M_run_23 (by decide) ?_
      refine pg_goto X d_M_run_24 ?_
      refine pg_iconst X (1) d_M_run_28 (by decide) ?_
      refine pg_iconst X (1) d_M_run_29 (by decide) ?_
      refine pc_V (ci := 4) (As := [_, _, _]) X Y d_M_run_30 (c_M_105 hG) (i_M_goes hG) (v_M_goes hG) (fun r h => by rw [hG.2] at h; cases h; rfl) rfl rfl (Nat.le_of_ble_eq_true rfl) (by rw [hR]; exact ⟨by decide, by decide⟩) (by decide) (by decide) (by rw [hR]; first | decide | (dsimp only [px_rm]; omega)) (by rw [hR]; first | decide | (dsimp only [px_rm]; omega)) (px_rd_of (by first | exact R.o | assumption)) (t_M_goes A S (fun _ π1 S1 => ?_) (fun q2 => absurd ⟨by decide, by decide, by decide⟩ q2))
      refine pg_if_ne X d_M_run_33 (fun c3 => ?_) (fun c3 => ?_)
      · have R1 := S1.1
        refine pg_aload_n X d_M_run_38 rfl ?_
        have R := S1.1
        refine pc_V (ci := 4) (As := []) X Y d_M_run_39 (c_M_163 hG) (i_M_measureAll hG) (v_M_measureAll hG) (fun r h => by rw [hG.2] at h; cases h; rfl) rfl rfl (Nat.le_of_ble_eq_true rfl) (by rw [hR]; exact ⟨by decide, by decide⟩) (by decide) (by decide) (by rw [hR]; first | decide | (dsimp only [px_rm]; omega)) (by rw [hR]; first | decide | (dsimp only [px_rm]; omega)) (px_rd_of (by first | exact R.o | assumption)) (t_M_measureAll A S1 B (C.r (FrR.s0 (tl := tl) (Or.inl rfl))) (fun f π2 FF S2 => ?_))
        have loop : ∀ r i μ1 π3, i + r = s → FM h ht nt nd (μ1 21) → CW h (rnW h wd ht nt nd tl i w) μ1 nd tl → CC b (rnW h wd ht nt nd tl i w) μ1 ht → μ1 0 9 = rnW h wd ht nt nd tl i w 0 1 → μ1 0 0 = 0 → FrR μ μ1 tl → SM zm μ1 π0 π3 → px_G Γ G (px_Q Γ G true K) true 0 0 44 [some (.ref zm), some (.int (nI s)), some (.int (nI i))] [] π3 := by
          intro r
          induction r with
          | zero =>
            intro i μ1 π3 hi FF W1 Q1 g9 g0 R1 S
            have ei : i = s := by omega
            subst ei
            have R := S.1
            have I1 := rnW_I I B HH.1 i
            refine pg_iload_n X d_M_run_44 rfl ?_
            refine pg_iload_n X d_M_run_45 rfl ?_
            refine pg_icmp_ge X d_M_run_46 (fun c4 => ?_) (fun c4 => ?_)
            · refine pg_aload_n X d_M_run_74 rfl ?_
              refine pc_V (ci := 4) (As := []) X Y d_M_run_75 (c_M_169 hG) (i_M_inside hG) (v_M_inside hG) (fun r h => by rw [hG.2] at h; cases h; rfl) rfl rfl (Nat.le_of_ble_eq_true rfl) (by rw [hR]; exact ⟨by decide, by decide⟩) (by decide) (by decide) (by rw [hR]; first | decide | (dsimp only [px_rm]; omega)) (by rw [hR]; first | decide | (dsimp only [px_rm]; omega)) (px_rd_of (by first | exact R.o | assumption)) (t_M_inside A R W1.1 htl ?_)
              have e : nI (cn (fun v => μ1 10 v = 1) tl) = rnW h wd ht nt nd tl i w 0 2 := by
                rw [I1.2.2.2.1]
                congr 1
                exact cn_cong tl (fun u hu => by rw [(W1.2 u hu).2.2.2.1])
              rw [e]
              exact pg_iret X Y d_M_run_78 rfl (by decide) (Nat.zero_le _) (Nat.zero_le _) (k1 μ1 π3 W1 Q1 g9 g0 R1 S)
            · simp (disch := omega) only [Int32.lt_iff_toInt_lt, Int32.le_iff_toInt_le, nI_toInt, px_l0, px_l1, px_l2, px_l3, px_l4, px_l5, px_l6, px_l10, px_l11, px_l12, px_l16, px_l30, px_l100, px_l400] at c4
              omega
          | succ r ih =>
            intro i μ1 π3 hi FF W1 Q1 g9 g0 R1 S
            have R := S.1
            have I1 := rnW_I I B HH.1 i
            have kk := rnW_k (h := h) (wd := wd) (ht := ht) (nt := nt) (nd := nd) (tl := tl) (w := w) i
            refine pg_iload_n X d_M_run_44 rfl ?_
            refine pg_iload_n X d_M_run_45 rfl ?_
            refine pg_icmp_ge X d_M_run_46 (fun c4 => ?_) (fun c4 => ?_)
            · simp (disch := omega) only [Int32.lt_iff_toInt_lt, Int32.le_iff_toInt_le, nI_toInt, px_l0, px_l1, px_l2, px_l3, px_l4, px_l5, px_l6, px_l10, px_l11, px_l12, px_l16, px_l30, px_l100, px_l400] at c4
              omega
            refine pg_aload_n X d_M_run_49 rfl ?_
            refine pg_aload_n X d_M_run_50 rfl ?_
            refine pg_getf X (f_M_119 hG) d_M_run_51 (px_rd_of (by first | exact R.o | exact R _ (by decide) | assumption)) rfl ?_
            refine pg_iconst X (0) d_M_run_54 (by decide) ?_
            refine pc_V (ci := 4) (As := [_, _]) X Y d_M_run_55 (c_M_166 hG) (i_M_pass hG) (v_M_pass hG) (fun r h => by rw [hG.2] at h; cases h; rfl) rfl rfl (Nat.le_of_ble_eq_true rfl) (by rw [hR]; exact ⟨by decide, by decide⟩) (by decide) (by decide) (by rw [hR]; first | decide | (dsimp only [px_rm]; omega)) (by rw [hR]; first | decide | (dsimp only [px_rm]; omega)) (px_rd_of (by first | exact R.o | assumption)) (t_M_pass A S FF (C.r R1) B HH I1 W1 Q1 (fl := 0) ⟨fun _ => by rw [kk.2.1]; exact h04, fun _ => rfl⟩ (fun _ => g9) (fun μ2 π4 W2 Q2 R2 S => ?_))
            have R := S.1
            have g92 : μ2 0 9 = rnW h wd ht nt nd tl i w 0 1 := by rw [R2.1 0 (by decide)]; exact g9
            have g02 : μ2 0 0 = 0 := by rw [R2.1 0 (by decide)]; exact g0
            refine pg_aload_n X d_M_run_58 rfl ?_
            refine pg_dup X d_M_run_59 rfl ?_
            refine pg_getf X (f_M_119 hG) d_M_run_60 (px_rd_of (by first | exact R.o | exact R _ (by decide) | assumption)) rfl ?_
            refine pg_iconst X (1) d_M_run_63 (by decide) ?_
            refine pg_iadd X d_M_run_64 ?_
            refine pm_put X S (j := 9) (p := 18) (f_M_119 hG) (ct_M hG) (nf_M_now hG) rfl (fun _ => rfl) rfl d_M_run_65 (fun π1 S => ?_)
            have R := S.1
            refine pg_iinc2 X d_M_run_68 ?_
            refine pg_goto X d_M_run_71 ?_
            rw [nI_i1]
            refine ih (i + 1) _ _ (by omega) ?_ (W2.s0 (Or.inr rfl)) Q2.s0 ?_ ?_ (R1.tr (R2.r.tr (FrR.s0 (Or.inr rfl)))) S
            · rw [up2_r (by decide)]
              exact FF.fr R2
            · rw [up2_s, g92]
              exact psW_k.1.symm
            · rw [up2_n (by decide)]
              exact g02
        refine pg_iconst X (0) d_M_run_42 (by decide) ?_
        refine pg_istore2 X d_M_run_43 ?_
        refine loop s 0 _ π2 (by omega) (by rw [upr_s]; exact FF) ((W.s0 (Or.inl rfl)).ur (by decide)) (Qc.s0.ur (by decide)) ?_ ?_ ((FrR.s0 (Or.inl rfl)).tr (FrR.ur (by decide))) S2
        · rw [upr_n (by decide), up2_n (by decide)]
          exact h9
        · rw [upr_n (by decide), up2_s]
      · exact absurd c3 (by decide)
  · refine pg_if_eq X d_M_run_8 (fun c1 => ?_) (fun c1 => ?_)
    · refine bad (fun ⟨s, e, g1, g2, g3⟩ => q1 ?_)
      rw [e]
      exact ⟨nI_le (a := 1) g1 (by omega), nI_le (b := 100) g2 (by decide)⟩
    · exact absurd rfl c1
end MRU
