/-! THE MODEL: pass -/
section MPA
variable {l : Launch} {G : px_Cg} {π π0 : px_H} {K : Option Value ⊕ String → px_H → Prop} {zm n nt nd wd ht c v tl d : Nat} {μ μ' h w w' : Nat → Nat → Int32} {b : Bool} {x : Int32}
theorem CW.inn (W : CW h w μ nd tl) (hv : v < tl) (h4 : w (6 + v) 4 = 0) (hg : w (6 + v) 6 = -1) {y : Int32} {g : Nat} : CW h (inW w v c g) (up2 (up2 (up2 μ 10 v 1) 11 v (nI c)) 18 d y) nd tl := by
  refine W.one (v := v) (by rw [up2_r (by decide), up2_r (by decide), up2_r (by decide)]) (fun u hu => inW_r (by omega) (by omega) (by omega) (by omega)) (inW_0 (by decide)) (fun u hu r _ _ => by rw [up2_n (Or.inl (by omega)), up2_n (Or.inr hu), up2_n (Or.inr hu)]) ?_
  obtain ⟨v0, v1, v2, v3, v4, v5, v6, v7⟩ := W.2 v hv
  have v5' : μ 12 v = mgI (w (6 + v) 6) := v5.elim (fun q => q) (fun q => by
    have q2 := q.2.1
    rw [h4] at q2
    exact absurd q2 (by decide))
  unfold VR
  rw [inW_j (j := 0) (by decide) (by decide), inW_j (j := 1) (by decide) (by decide), inW_j (j := 2) (by decide) (by decide), inW_j (j := 6) (by decide) (by decide), inW_j (j := 7) (by decide) (by decide), inW_j (j := 8) (by decide) (by decide), inW_4, inW_5]
  simp only [up2_r (show (7 : Nat) ≠ 18 by decide), up2_r (show (7 : Nat) ≠ 11 by decide), up2_r (show (7 : Nat) ≠ 10 by decide), up2_r (show (8 : Nat) ≠ 18 by decide), up2_r (show (8 : Nat) ≠ 11 by decide), up2_r (show (8 : Nat) ≠ 10 by decide), up2_r (show (9 : Nat) ≠ 18 by decide), up2_r (show (9 : Nat) ≠ 11 by decide), up2_r (show (9 : Nat) ≠ 10 by decide), up2_r (show (10 : Nat) ≠ 18 by decide), up2_r (show (10 : Nat) ≠ 11 by decide), up2_r (show (11 : Nat) ≠ 18 by decide), up2_r (show (12 : Nat) ≠ 18 by decide), up2_r (show (12 : Nat) ≠ 11 by decide), up2_r (show (12 : Nat) ≠ 10 by decide), up2_r (show (13 : Nat) ≠ 18 by decide), up2_r (show (13 : Nat) ≠ 11 by decide), up2_r (show (13 : Nat) ≠ 10 by decide), up2_r (show (14 : Nat) ≠ 18 by decide), up2_r (show (14 : Nat) ≠ 11 by decide), up2_r (show (14 : Nat) ≠ 10 by decide), up2_s]
  exact ⟨v0, v1, v2, trivial, fun _ => trivial, Or.inl v5', v6, v7⟩
theorem CC.inn (Q : CC b w μ ht) (hd : d < 4) : CC b (inW w v c (6 + d)) (up2 (up2 (up2 μ 10 v 1) 11 v (nI c)) 18 d (μ 18 d + 1)) ht := by
  intro hb
  obtain ⟨q1, q2⟩ := Q hb
  refine ⟨fun a ha => ?_, fun e he => ?_⟩
  · rw [up2_r (by decide), up2_r (by decide), up2_r (by decide), inW_r (by decide) (by decide) (by decide) (by omega)]
    exact q1 a ha
  · rw [up2_r (r := 18) (r' := 19) (by decide), up2_r (r' := 19) (by decide), up2_r (r' := 19) (by decide), inW_r (r := 4) (by decide) (by decide) (by decide) (by omega), inW_3]
    refine ⟨?_, (q2 e he).2⟩
    by_cases q : e = d
    · rw [q, up2_s, up2_s, (q2 d hd).1]
    · rw [up2_n (r := 18) (Or.inr q), up2_r (r := 11) (r' := 18) (by decide), up2_r (r := 10) (r' := 18) (by decide), up2_n (r := 3) (Or.inr (by omega))]
      exact (q2 e he).1
theorem CW.keep (W : CW h w μ nd tl) (hw : ∀ u, w' (6 + u) = w (6 + u)) (h0 : w' 0 4 = w 0 4) (h8 : μ' 0 8 = μ 0 8) (hm : ∀ r, 7 ≤ r → r ≤ 14 → μ' r = μ r) : CW h w' μ' nd tl :=
  ⟨by rw [h8]; exact W.1, fun v hv => (W.2 v hv).cong (hw v) h0 (fun r a b => by rw [hm r a b])⟩
theorem CC.stay (Q : CC b w μ ht) : CC b (up2 w 2 c (w 2 c + 1)) (up2 μ 16 c (μ 16 c + 1)) ht := by
  intro hb
  obtain ⟨q1, q2⟩ := Q hb
  refine ⟨fun a ha => ?_, fun e he => ?_⟩
  · by_cases q : a = c
    · rw [q] at ha ⊢
      rw [up2_s, up2_s, q1 c ha]
    · rw [up2_n (Or.inr q), up2_n (Or.inr q)]
      exact q1 a ha
  · rw [up2_r (r' := 18) (by decide), up2_r (r' := 19) (by decide), up2_r (r' := 3) (by decide), up2_r (r' := 4) (by decide)]
    exact q2 e he
theorem it_s {f : Nat → (Nat → Nat → Int32) → (Nat → Nat → Int32)} {i : Nat} : px_it f (i + 1) w = f i (px_it f i w) := rfl
theorem t_M_pass (A : GA G) (S : SM zm μ π0 π) (FF : FM h ht nt nd (μ 21)) (C : CH h μ wd ht nt nd) (B : HG h wd ht nt nd n) (HH : HS h nt) (I : INV w wd ht nt nd tl) (W : CW h w μ nd tl) (Qc : CC b w μ ht) {sec fl : Int32} (hfl : fl = 0 ↔ w 0 4 = 0) (hsec : w 0 4 = 0 → sec = w 0 1)
    (k : ∀ μ' π1, CW h (psW h wd ht nt nd tl w) μ' nd tl → CC b (psW h wd ht nt nd tl w) μ' ht → FrM μ μ' tl → SM zm μ' π0 π1 → K (.inl none) π1) :
    px_P l G y_M_pass b_M_pass 4 none (px_rm 5 130) true [.ref zm, .int sec, .int fl] π K := by
  have hG := A.1
  have hZ := A.2.1
  refine px_P.intro (by decide) hZ (by simp [Value.category]) (Nat.le_of_ble_eq_true rfl) rfl ?_
  intro Γ hl hR X Y hnm hs hbel
  subst hl
  refine pg_w ?_
  obtain ⟨⟨b0, b1, b2, b3, b4, b5, b6, b7, b8, b9⟩, BD⟩ := id B
  have htl := I.1.2.1
  -- the seconds stayed
  have two : ∀ r i (w1 μ1 : Nat → Nat → Int32) π1, i + r = tl → INV w1 wd ht nt nd tl → CW h w1 μ1 nd tl → CC b w1 μ1 ht → FrM μ μ1 tl → SM zm μ1 π0 π1 → w1 = px_it ssI i (px_it (psI h wd ht nt nd tl) tl w) → px_G Γ G (px_Q Γ G true K) true 0 0 121 [some (.ref zm), some (.int sec), some (.int fl), some (.int (nI i))] [] π1 := by
    intro r
    induction r with
    | zero =>
      intro i w1 μ1 π1 hi I1 W1 Q1 R1 S e
      have ei : i = tl := by omega
      subst ei
      have R := S.1
      refine pg_iload_n X d_M_pass_121 rfl ?_
      refine pg_aload_n X d_M_pass_122 rfl ?_
      refine pg_getf X (f_M_98 hG) d_M_pass_123 (px_rd_of (by first | exact R.o | exact R _ (by decide) | assumption)) rfl ?_
      rw [W1.1]
      refine pg_icmp_ge X d_M_pass_126 (fun c1 => ?_) (fun c1 => ?_)
      · have ep : psW h wd ht nt nd i w = up2 w1 0 1 (w1 0 1 + 1) := by
          unfold psW
          rw [← e]
        rw [ep] at k
        exact pg_vret X Y d_M_pass_160 (by decide) (Nat.zero_le _) (Nat.zero_le _) (k μ1 _ (W1.keep (fun u => up2_r (by omega)) (up2_n (by decide)) rfl (fun _ _ _ => rfl)) (Q1.wr (up2_r (by decide)) (up2_r (by decide)) (fun _ _ => by rw [up2_r (by decide)])) R1 S)
      · simp (disch := omega) only [Int32.lt_iff_toInt_lt, Int32.le_iff_toInt_le, nI_toInt, px_l0, px_l1, px_l2, px_l3, px_l4, px_l5, px_l6, px_l10, px_l11, px_l12, px_l16, px_l30, px_l100, px_l400] at c1
        omega
    | succ r ih =>
      intro i w1 μ1 π1 hi I1 W1 Q1 R1 S e
      have R := S.1
      have hi16 : i < 16 := by omega
      have hit : i < tl := by omega
      have hst := (W1.2 i hit).2.2.2.1
      obtain ⟨⟨c, hc1, hc2⟩, -, -⟩ := I1.1.2.2 i hit
      have hcl := inC_144 b4.2 b5.2 hc2
      refine pg_iload_n X d_M_pass_121 rfl ?_
      refine pg_aload_n X d_M_pass_122 rfl ?_
      refine pg_getf X (f_M_98 hG) d_M_pass_123 (px_rd_of (by first | exact R.o | exact R _ (by decide) | assumption)) rfl ?_
      rw [W1.1]
      refine pg_icmp_ge X d_M_pass_126 (fun c1 => ?_) (fun c1 => ?_)
      · simp (disch := omega) only [Int32.lt_iff_toInt_lt, Int32.le_iff_toInt_le, nI_toInt, px_l0, px_l1, px_l2, px_l3, px_l4, px_l5, px_l6, px_l10, px_l11, px_l12, px_l16, px_l30, px_l100, px_l400] at c1
        omega
      refine pg_aload_n X d_M_pass_129 rfl ?_
      refine pg_getf X (f_M_45 hG) d_M_pass_130 (px_rd_of (by first | exact R.o | exact R _ (by decide) | assumption)) rfl ?_
      refine pg_iload_n X d_M_pass_133 rfl ?_
      refine pg_ialdN X d_M_pass_134 (px_rd_of (by first | exact R.o | exact R _ (by decide) | assumption)) (by first | assumption | omega) (by first | assumption | omega) ?_
      refine pg_iconst X (1) d_M_pass_135 (by decide) ?_
      rw [hst]
      refine pg_icmp_ne X d_M_pass_136 (fun c2 => ?_) (fun c2 => ?_)
      · refine pg_iinc3 X d_M_pass_154 ?_
        refine pg_goto X d_M_pass_157 ?_
        rw [nI_i1]
        refine ih (i + 1) w1 μ1 π1 (by omega) I1 W1 Q1 R1 S ?_
        rw [it_s, ← e]
        unfold ssI
        rw [if_neg c2]
      · have h11 : μ1 11 i = nI c := by rw [(W1.2 i hit).2.2.2.2.1 c2, hc1]
        refine pg_aload_n X d_M_pass_139 rfl ?_
        refine pg_getf X (f_M_63 hG) d_M_pass_140 (px_rd_of (by first | exact R.o | exact R _ (by decide) | assumption)) rfl ?_
        refine pg_aload_n X d_M_pass_143 rfl ?_
        refine pg_getf X (f_M_48 hG) d_M_pass_144 (px_rd_of (by first | exact R.o | exact R _ (by decide) | assumption)) rfl ?_
        refine pg_iload_n X d_M_pass_147 rfl ?_
        refine pg_ialdN X d_M_pass_148 (px_rd_of (by first | exact R.o | exact R _ (by decide) | assumption)) (by first | assumption | omega) (by first | assumption | omega) ?_
        rw [h11]
        refine pg_dup2 X d_M_pass_149 rfl rfl ?_
        refine pg_ialdN X d_M_pass_150 (px_rd_of (by first | exact R.o | exact R _ (by decide) | assumption)) (by first | assumption | omega) (by first | assumption | omega) ?_
        refine pg_iconst X (1) d_M_pass_151 (by decide) ?_
        refine pg_iadd X d_M_pass_152 ?_
        refine pm_ist X S (fun _ => rfl) (by decide) d_M_pass_153 (by first | assumption | omega) (by first | assumption | omega) (fun π1 S => ?_)
        have R := S.1
        refine pg_iinc3 X d_M_pass_154 ?_
        refine pg_goto X d_M_pass_157 ?_
        rw [nI_i1]
        refine ih (i + 1) (up2 w1 2 c (w1 2 c + 1)) _ _ (by omega) I1.row (W1.keep (fun u => up2_r (by omega)) (up2_n (Or.inl (by decide))) (up2_n (by omega)) (fun r a b => up2_r (by omega))) Q1.stay (R1.tr (FrM.uk (by decide))) S ?_
        rw [it_s, ← e]
        unfold ssI
        rw [if_pos c2, hc1, nI_clamp (by omega)]
  have one : ∀ r i (w1 μ1 : Nat → Nat → Int32) π1, i + r = tl → INV w1 wd ht nt nd tl → kpt w w1 → CW h w1 μ1 nd tl → CC b w1 μ1 ht → FrM μ μ1 tl → SM zm μ1 π0 π1 → w1 = px_it (psI h wd ht nt nd tl) i w → px_G Γ G (px_Q Γ G true K) true 0 0 2 [some (.ref zm), some (.int sec), some (.int fl), some (.int (nI i))] [] π1 := by
    intro r
    induction r with
    | zero =>
      intro i w1 μ1 π1 hi I1 k1 W1 Q1 R1 S e
      have ei : i = tl := by omega
      subst ei
      have R := S.1
      refine pg_iload_n X d_M_pass_2 rfl ?_
      refine pg_aload_n X d_M_pass_3 rfl ?_
      refine pg_getf X (f_M_98 hG) d_M_pass_4 (px_rd_of (by first | exact R.o | exact R _ (by decide) | assumption)) rfl ?_
      rw [W1.1]
      refine pg_icmp_ge X d_M_pass_7 (fun c1 => ?_) (fun c1 => ?_)
      · refine pg_iconst X (0) d_M_pass_119 (by decide) ?_
        refine pg_istore3 X d_M_pass_120 ?_
        exact two i 0 w1 μ1 π1 (by omega) I1 W1 Q1 R1 S (by rw [e]; rfl)
      · simp (disch := omega) only [Int32.lt_iff_toInt_lt, Int32.le_iff_toInt_le, nI_toInt, px_l0, px_l1, px_l2, px_l3, px_l4, px_l5, px_l6, px_l10, px_l11, px_l12, px_l16, px_l30, px_l100, px_l400] at c1
        omega
    | succ r ih =>
      intro i w1 μ1 π1 hi I1 k1 W1 Q1 R1 S e
      have R := S.1
      have hi16 : i < 16 := by omega
      have hit : i < tl := by omega
      have hV := W1.2 i hit
      have hst := hV.2.2.2.1
      have C1 := C.fr R1
      have F1 := FF.fr R1
      have hfl1 : fl = 0 ↔ w1 0 4 = 0 := by rw [k1.2.2.1]; exact hfl
      have I2 := I1.ps (v := i) B HH.1 hit
      have k2 := k1.tr (kpt.ps (h := h) (wd := wd) (ht := ht) (nt := nt) (nd := nd) (tl := tl) (v := i) (w := w1))
      have e2 : psI h wd ht nt nd tl i w1 = px_it (psI h wd ht nt nd tl) (i + 1) w := by rw [it_s, ← e]
      have go : ∀ μ2 π2, CW h (psI h wd ht nt nd tl i w1) μ2 nd tl → CC b (psI h wd ht nt nd tl i w1) μ2 ht → FrM μ μ2 tl → SM zm μ2 π0 π2 → px_G Γ G (px_Q Γ G true K) true 0 0 113 [some (.ref zm), some (.int sec), some (.int fl), some (.int (nI i))] [] π2 := by
        intro μ2 π2 W2 Q2 R2 S
        refine pg_iinc3 X d_M_pass_113 ?_
        refine pg_goto X d_M_pass_116 ?_
        rw [nI_i1]
        exact ih (i + 1) _ μ2 π2 (by omega) I2 k2 W2 Q2 R2 S e2
      refine pg_iload_n X d_M_pass_2 rfl ?_
      refine pg_aload_n X d_M_pass_3 rfl ?_
      refine pg_getf X (f_M_98 hG) d_M_pass_4 (px_rd_of (by first | exact R.o | exact R _ (by decide) | assumption)) rfl ?_
      rw [W1.1]
      refine pg_icmp_ge X d_M_pass_7 (fun c1 => ?_) (fun c1 => ?_)
      · simp (disch := omega) only [Int32.lt_iff_toInt_lt, Int32.le_iff_toInt_le, nI_toInt, px_l0, px_l1, px_l2, px_l3, px_l4, px_l5, px_l6, px_l10, px_l11, px_l12, px_l16, px_l30, px_l100, px_l400] at c1
        omega
      refine pg_aload_n X d_M_pass_10 rfl ?_
      refine pg_getf X (f_M_45 hG) d_M_pass_11 (px_rd_of (by first | exact R.o | exact R _ (by decide) | assumption)) rfl ?_
      refine pg_iload_n X d_M_pass_14 rfl ?_
      refine pg_ialdN X d_M_pass_15 (px_rd_of (by first | exact R.o | exact R _ (by decide) | assumption)) (by first | assumption | omega) (by first | assumption | omega) ?_
      refine pg_iconst X (1) d_M_pass_16 (by decide) ?_
      rw [hst]
      by_cases q1 : w1 (6 + i) 4 = 1
      · have ep : psI h wd ht nt nd tl i w1 = goW h w1 i wd ht nt nd tl := by unfold psI; rw [if_pos q1]
        rw [ep] at go
        refine pg_icmp_ne X d_M_pass_17 (fun c2 => ?_) (fun c2 => ?_)
        · exact absurd q1 c2
        refine pg_aload_n X d_M_pass_20 rfl ?_
        refine pg_iload_n X d_M_pass_21 rfl ?_
        refine pg_iload_n X d_M_pass_22 rfl ?_
        refine pc_V (ci := 4) (As := [_, _]) X Y d_M_pass_23 (c_M_159 hG) (i_M_act hG) (v_M_act hG) (fun r h => by rw [hG.2] at h; cases h; rfl) rfl rfl (Nat.le_of_ble_eq_true rfl) (by rw [hR]; exact ⟨by decide, by decide⟩) (by decide) (by decide) (by rw [hR]; first | decide | (dsimp only [px_rm]; omega)) (by rw [hR]; first | decide | (dsimp only [px_rm]; omega)) (px_rd_of (by first | exact R.o | assumption)) (t_M_act A S F1 C1 B HH I1.1 I1.2.1 I1.2.2.1 W1 Q1 hit q1 hfl1 (fun μ2 π2 W2 Q2 R2 S2 => ?_))
        refine pg_goto X d_M_pass_26 ?_
        exact go μ2 π2 W2 Q2 (R1.tr R2) S2
      · have ep : psI h wd ht nt nd tl i w1 = if w1 (6 + i) 4 = 0 ∧ w1 (6 + i) 0 ≤ w1 0 1 ∧ w1 0 4 = 0 then (if w1 1 (h 2 (w1 (6 + i) 1).toNatClampNeg).toNatClampNeg < h 0 5 then inW w1 i (h 2 (w1 (6 + i) 1).toNatClampNeg).toNatClampNeg (w1 (6 + i) 1).toNatClampNeg else w1) else w1 := by unfold psI; rw [if_neg q1]
        rw [ep] at go
        refine pg_icmp_ne X d_M_pass_17 (fun c2 => ?_) (fun c2 => ?_)
        · refine pg_aload_n X d_M_pass_29 rfl ?_
          refine pg_getf X (f_M_45 hG) d_M_pass_30 (px_rd_of (by first | exact R.o | exact R _ (by decide) | assumption)) rfl ?_
          refine pg_iload_n X d_M_pass_33 rfl ?_
          refine pg_ialdN X d_M_pass_34 (px_rd_of (by first | exact R.o | exact R _ (by decide) | assumption)) (by first | assumption | omega) (by first | assumption | omega) ?_
          rw [hst]
          refine pg_if_ne X d_M_pass_35 (fun c3 => ?_) (fun c3 => ?_)
          · rw [if_neg (fun q => c3 q.1)] at go
            exact go μ1 π1 W1 Q1 R1 S
          refine pg_iload_n X d_M_pass_38 rfl ?_
          refine pg_if_ne X d_M_pass_39 (fun c4 => ?_) (fun c4 => ?_)
          · rw [if_neg (fun q => c4 (hfl1.mpr q.2.2))] at go
            exact go μ1 π1 W1 Q1 R1 S
          have h04 := hfl1.mp c4
          have hse : sec = w1 0 1 := by rw [k1.2.1]; exact hsec (by rw [← k1.2.2.1]; exact h04)
          refine pg_aload_n X d_M_pass_42 rfl ?_
          refine pg_getf X (f_M_36 hG) d_M_pass_43 (px_rd_of (by first | exact R.o | exact R _ (by decide) | assumption)) rfl ?_
          refine pg_iload_n X d_M_pass_46 rfl ?_
          refine pg_ialdN X d_M_pass_47 (px_rd_of (by first | exact R.o | exact R _ (by decide) | assumption)) (by first | assumption | omega) (by first | assumption | omega) ?_
          refine pg_iload_n X d_M_pass_48 rfl ?_
          rw [hV.1, hse]
          refine pg_icmp_gt X d_M_pass_49 (fun c5 => ?_) (fun c5 => ?_)
          · rw [if_neg (fun q => k2_nle c5 q.2.1)] at go
            rw [← hse]
            exact go μ1 π1 W1 Q1 R1 S
          rw [if_pos ⟨c3, k2_le c5, h04⟩] at go
          obtain ⟨d, d1, d2, d3⟩ := hV.2.1
          obtain ⟨c, g1, g2⟩ := b9 (6 + d) (Or.inr (by omega))
          have hcl := inC_lt g2
          have hcl2 := inC_144 b4.2 b5.2 g2
          have h6d : μ1 6 d = nI c := by rw [C1.2.2.2.2.2.2.2.2.2 d d1]; exact g1
          rw [d3, nI_clamp (by omega), g1, nI_clamp (by omega)] at go
          rw [← hse]
          refine pg_aload_n X d_M_pass_52 rfl ?_
          refine pg_aload_n X d_M_pass_53 rfl ?_
          refine pg_getf X (f_M_26 hG) d_M_pass_54 (px_rd_of (by first | exact R.o | exact R _ (by decide) | assumption)) rfl ?_
          refine pg_aload_n X d_M_pass_57 rfl ?_
          refine pg_getf X (f_M_39 hG) d_M_pass_58 (px_rd_of (by first | exact R.o | exact R _ (by decide) | assumption)) rfl ?_
          refine pg_iload_n X d_M_pass_61 rfl ?_
          refine pg_ialdN X d_M_pass_62 (px_rd_of (by first | exact R.o | exact R _ (by decide) | assumption)) (by first | assumption | omega) (by first | assumption | omega) ?_
          rw [d2]
          refine pg_ialdN X d_M_pass_63 (px_rd_of (by first | exact R.o | exact R _ (by decide) | assumption)) (by first | assumption | omega) (by first | assumption | omega) ?_
          rw [h6d]
          refine pc_V (ci := 4) (As := [_]) X Y d_M_pass_64 (c_M_109 hG) (i_M_crowdOf hG) (v_M_crowdOf hG) (fun r h => by rw [hG.2] at h; cases h; rfl) rfl rfl (Nat.le_of_ble_eq_true rfl) (by rw [hR]; exact ⟨by decide, by decide⟩) (by decide) (by decide) (by rw [hR]; first | decide | (dsimp only [px_rm]; omega)) (by rw [hR]; first | decide | (dsimp only [px_rm]; omega)) (px_rd_of (by first | exact R.o | assumption)) (t_M_crowdOf A R W1.1 htl ?_)
          rw [W1.cr I1.2.2.1 hcl]
          refine pg_aload_n X d_M_pass_67 rfl ?_
          refine pg_getf X (f_M_29 hG) d_M_pass_68 (px_rd_of (by first | exact R.o | exact R _ (by decide) | assumption)) rfl ?_
          rw [C1.2.2.2.2.2.1]
          refine pg_icmp_ge X d_M_pass_71 (fun c6 => ?_) (fun c6 => ?_)
          · rw [if_neg (k2_nlt c6)] at go
            exact go μ1 π1 W1 Q1 R1 S
          · rw [if_pos (k2_lt c6)] at go
            refine pg_aload_n X d_M_pass_74 rfl ?_
            refine pg_getf X (f_M_45 hG) d_M_pass_75 (px_rd_of (by first | exact R.o | exact R _ (by decide) | assumption)) rfl ?_
            refine pg_iload_n X d_M_pass_78 rfl ?_
            refine pg_iconst X (1) d_M_pass_79 (by decide) ?_
            refine pm_ist X S (fun _ => rfl) (by decide) d_M_pass_80 (by first | assumption | omega) (by first | assumption | omega) (fun π1 S => ?_)
            have R := S.1
            refine pg_aload_n X d_M_pass_81 rfl ?_
            refine pg_getf X (f_M_48 hG) d_M_pass_82 (px_rd_of (by first | exact R.o | exact R _ (by decide) | assumption)) rfl ?_
            refine pg_iload_n X d_M_pass_85 rfl ?_
            refine pg_aload_n X d_M_pass_86 rfl ?_
            refine pg_getf X (f_M_26 hG) d_M_pass_87 (px_rd_of (by first | exact R.o | exact R _ (by decide) | assumption)) rfl ?_
            refine pg_aload_n X d_M_pass_90 rfl ?_
            refine pg_getf X (f_M_39 hG) d_M_pass_91 (px_rd_of (by first | exact R.o | exact R _ (by decide) | assumption)) rfl ?_
            refine pg_iload_n X d_M_pass_94 rfl ?_
            refine pg_ialdN X d_M_pass_95 (px_rd_of (by first | exact R.o | exact R _ (by decide) | assumption)) (by first | assumption | omega) (by first | assumption | omega) ?_
            rw [up2_r (r' := 8) (by decide), d2]
            refine pg_ialdN X d_M_pass_96 (px_rd_of (by first | exact R.o | exact R _ (by decide) | assumption)) (by first | assumption | omega) (by first | assumption | omega) ?_
            rw [up2_r (r' := 6) (by decide), h6d]
            refine pm_ist X S (fun _ => rfl) (by decide) d_M_pass_97 (by first | assumption | omega) (by first | assumption | omega) (fun π1 S => ?_)
            have R := S.1
            refine pg_aload_n X d_M_pass_98 rfl ?_
            refine pg_getf X (f_M_69 hG) d_M_pass_99 (px_rd_of (by first | exact R.o | exact R _ (by decide) | assumption)) rfl ?_
            refine pg_aload_n X d_M_pass_102 rfl ?_
            refine pg_getf X (f_M_39 hG) d_M_pass_103 (px_rd_of (by first | exact R.o | exact R _ (by decide) | assumption)) rfl ?_
            refine pg_iload_n X d_M_pass_106 rfl ?_
            refine pg_ialdN X d_M_pass_107 (px_rd_of (by first | exact R.o | exact R _ (by decide) | assumption)) (by first | assumption | omega) (by first | assumption | omega) ?_
            rw [up2_r (r' := 8) (by decide), up2_r (r' := 8) (by decide), d2]
            refine pg_dup2 X d_M_pass_108 rfl rfl ?_
            refine pg_ialdN X d_M_pass_109 (px_rd_of (by first | exact R.o | exact R _ (by decide) | assumption)) (by first | assumption | omega) (by first | assumption | omega) ?_
            refine pg_iconst X (1) d_M_pass_110 (by decide) ?_
            refine pg_iadd X d_M_pass_111 ?_
            refine pm_ist X S (fun _ => rfl) (by decide) d_M_pass_112 (by first | assumption | omega) (by first | assumption | omega) (fun π1 S => ?_)
            have R := S.1
            rw [up2_r (r := 11) (r' := 18) (by decide), up2_r (r := 10) (r' := 18) (by decide)] at S
            exact go _ _ (W1.inn hit c3 ((I1.2.1 i hit).2.2.2.2.2.2 q1)) (Q1.inn (by omega)) (R1.tr (((FrM.up (by omega)).tr (FrM.up (by omega))).tr (FrM.uk (by omega)))) S
        · exact absurd c2 q1
  refine pg_iconst X (0) d_M_pass_0 (by decide) ?_
  refine pg_istore3 X d_M_pass_1 ?_
  exact one tl 0 w μ π (by omega) I kpt.rf W Qc FrM.rf S rfl
end MPA
