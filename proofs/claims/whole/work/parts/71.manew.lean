/-! THE MODEL: anew, sum -/
def RS (μ μ' : Nat → Nat → Int32) (i : Nat) : Prop := (∀ r, r ≠ 10 → r ≠ 12 → r ≠ 13 → r ≠ 14 → μ' r = μ r) ∧ ∀ v, v < i → μ' 10 v = 0 ∧ μ' 12 v = -1 ∧ μ' 13 v = 0 ∧ μ' 14 v = 0
section MAN
variable {l : Launch} {G : px_Cg} {π π0 : px_H} {K : Option Value ⊕ String → px_H → Prop} {zm n nt nd wd ht tl nw : Nat} {μ μ' μ2 h w wt : Nat → Nat → Int32} {ta : Nat → Int32}
theorem RS.st {i : Nat} (a : RS μ μ' i) : RS μ (up2 (up2 (up2 (up2 μ' 10 i 0) 12 i (-1)) 13 i 0) 14 i 0) (i + 1) := by
  refine ⟨fun r h1 h2 h3 h4 => ?_, fun v hv => ?_⟩
  · rw [up2_r h4, up2_r h3, up2_r h2, up2_r h1]
    exact a.1 r h1 h2 h3 h4
  · by_cases q : v = i
    · subst q
      simp [up2]
    · have := a.2 v (by omega)
      simp [up2, q, this]
theorem CW.bk (W : CW h w μ nd tl) (htl : tl ≤ 16) (a : RS μ μ' 16) : CW h (gbW (cpW w wt tl) tl) μ' nd tl := by
  refine ⟨by rw [a.1 0 (by decide) (by decide) (by decide) (by decide)]; exact W.1, fun v hv => ?_⟩
  obtain ⟨v0, v1, v2, v3, v4, v5, v6, v7⟩ := W.2 v hv
  obtain ⟨g4, g5, g6, g7, g8, g9, gj⟩ := gbW_v (w := cpW w wt tl) hv
  obtain ⟨r10, r12, r13, r14⟩ := a.2 v (by omega)
  unfold VR
  rw [g4, g5, g6, g7, g8, gj 0 (by decide), gj 1 (by decide), gj 2 (by decide), cpW_v hv, a.1 7 (by decide) (by decide) (by decide) (by decide), a.1 8 (by decide) (by decide) (by decide) (by decide), a.1 9 (by decide) (by decide) (by decide) (by decide), r10, r12, r14]
  exact ⟨v0, v1, v2, rfl, fun q => absurd q (by decide), Or.inl mgI_n.symm, fun t ht q => absurd q.symm (nI_nm1 (by omega)), rfl⟩
theorem gbW_04 : gbW (cpW w wt tl) tl 0 4 = 0 := by
  have p1 : ∀ k w, px_it gbI k w 0 = w 0 := by
    intro k w
    induction k with
    | zero => rfl
    | succ k ih =>
      rw [it_s]
      unfold gbI
      rw [up2_r (by omega), up2_r (by omega), trn_0, up2_r (by omega), up2_r (by omega)]
      exact ih
  unfold gbW
  rw [up2_n (Or.inr (by decide)), up2_n (Or.inr (by decide)), up2_n (Or.inr (by decide)), upr_n (by decide), upr_n (by decide), upr_n (by decide), upr_n (by decide), p1]
  exact cpW_0.2.2.2.2
theorem CW.sn (W : CW h w μ nd tl) (I : INV w wd ht nt nd tl) {t : Nat} (ht6 : t < 6) : sno (μ 14) (nI t) tl = w 4 t := by
  rw [I.2.2.2.2.2 t ht6]
  exact sno_cong tl (fun u hu => by rw [(W.2 u hu).2.2.2.2.2.2.2])
theorem t_M_anew (A : GA G) (S : SM zm μ π0 π) (C : CH h μ wd ht nt nd) (B : HG h wd ht nt nd n) (HH : HS h nt) (I : INV w wd ht nt nd tl) (W : CW h w μ nd tl) (h9 : μ 0 9 = nI nw) (hnw : w 0 1 = nI nw) (hnw2 : nw ≤ 400) (h5 : ∀ t, t < 6 → μ 5 t = ta t)
    (k : ∀ μ' π1, μ' 0 0 = μ 0 0 → FrE 0 μ μ' → SM zm μ' π0 π1 → K (.inl (some (.int (sqV h w wt ta wd ht nt nd tl nw)))) π1) :
    px_P l G y_M_anew b_M_anew 4 (some .int) (px_rm 6 154) true [.ref zm] π K := by
  have hG := A.1
  have hZ := A.2.1
  refine px_P.intro (by decide) hZ (by simp [Value.category]) (Nat.le_of_ble_eq_true rfl) rfl ?_
  intro Γ hl hR X Y hnm hs hbel
  subst hl
  refine pg_w ?_
  rw [sqV_rn B HH.1 I hnw hnw2] at k
  have htl := I.1.2.1
  obtain ⟨⟨b0, b1, b2, b3, b4, b5, b6, b7, b8, b9⟩, BD⟩ := id B
  have R := S.1
  refine pg_aload_n X d_M_anew_0 rfl ?_
  refine pc_V (ci := 4) (As := []) X Y d_M_anew_1 (c_M_163 hG) (i_M_measureAll hG) (v_M_measureAll hG) (fun r h => by rw [hG.2] at h; cases h; rfl) rfl rfl (Nat.le_of_ble_eq_true rfl) (by rw [hR]; exact ⟨by decide, by decide⟩) (by decide) (by decide) (by rw [hR]; first | decide | (dsimp only [px_rm]; omega)) (by rw [hR]; first | decide | (dsimp only [px_rm]; omega)) (px_rd_of (by first | exact R.o | assumption)) (t_M_measureAll A S B C (fun f21 π2 FF S => ?_))
  have W1 : CW h w (upr μ 21 f21) nd tl := W.ur (by decide)
  have C1 : CH h (upr μ 21 f21) wd ht nt nd := C.up (by decide)
  have FF1 : FM h ht nt nd (upr μ 21 f21 21) := by rw [upr_s]; exact FF
  have E1 : FrE 0 μ (upr μ 21 f21) := FrE.ur
  have z1 : upr μ 21 f21 0 = μ 0 := upr_n (by decide)
  have z5 : upr μ 21 f21 5 = μ 5 := upr_n (by decide)
  generalize upr μ 21 f21 = μ1 at S W1 C1 FF1 E1 z1 z5
  have R := S.1
  refine pg_aload_n X d_M_anew_4 rfl ?_
  refine pc_V (ci := 4) (As := []) X Y d_M_anew_5 (c_M_180 hG) (i_M_keep hG) (v_M_keep hG) (fun r h => by rw [hG.2] at h; cases h; rfl) rfl rfl (Nat.le_of_ble_eq_true rfl) (by rw [hR]; exact ⟨by decide, by decide⟩) (by decide) (by decide) (by rw [hR]; first | decide | (dsimp only [px_rm]; omega)) (by rw [hR]; first | decide | (dsimp only [px_rm]; omega)) (px_rd_of (by first | exact R.o | assumption)) (t_M_keep A S (fun f g e π3 hk hg he S => ?_))
  have W2 : CW h w (upr (upr (upr μ1 15 f) 17 g) 20 e) nd tl := ((W1.ur (by decide)).ur (by decide)).ur (by decide)
  have C2 : CH h (upr (upr (upr μ1 15 f) 17 g) 20 e) wd ht nt nd := ((C1.up (by decide)).up (by decide)).up (by decide)
  have FF2 : FM h ht nt nd (upr (upr (upr μ1 15 f) 17 g) 20 e 21) := by rw [upr_n (by decide), upr_n (by decide), upr_n (by decide)]; exact FF1
  have bk : ∀ μ2 μ', (∀ r, (r ≤ 9 ∨ r = 15 ∨ r = 17 ∨ 20 ≤ r) → μ2 r = upr (upr (upr μ1 15 f) 17 g) 20 e r) → PB μ2 μ' 16 144 4 → μ' 0 0 = μ 0 0 ∧ FrE 0 μ μ' := fun μ2 μ' h1 hp => by
    have E := FrE.back (p := 0) hk hg he h1 hp
    exact ⟨by rw [E.1, z1], E1.tr E.2⟩
  have y0 : upr (upr (upr μ1 15 f) 17 g) 20 e 0 = μ 0 := by rw [upr_n (by decide), upr_n (by decide), upr_n (by decide), z1]
  have y5 : upr (upr (upr μ1 15 f) 17 g) 20 e 5 = μ 5 := by rw [upr_n (by decide), upr_n (by decide), upr_n (by decide), z5]
  generalize upr (upr (upr μ1 15 f) 17 g) 20 e = μa at S W2 C2 FF2 bk y0 y5
  -- the sum
  have sum : ∀ w3 μ3, (∀ μ' π1, μ' 0 0 = μ 0 0 → FrE 0 μ μ' → SM zm μ' π0 π1 → K (.inl (some (.int (sqS ta (w3 4) nt)))) π1) → INV w3 wd ht nt nd tl → CW h w3 μ3 nd tl → (∀ r, (r ≤ 9 ∨ r = 15 ∨ r = 17 ∨ 20 ≤ r) → μ3 r = μa r) → ∀ π3, SM zm μ3 π0 π3 → ∀ r t x3, t + r = nt → px_G Γ G (px_Q Γ G true K) true 0 0 76 [some (.ref zm), some (.int (sqS ta (w3 4) t)), some (.int (nI t)), x3] [] π3 := by
    intro w3 μ3 k I3 W3 h1 π3 S r
    have R := S.1
    have h04 : μ3 0 4 = nI nt := by rw [h1 0 (by decide), y0]; exact C.2.2.2.1
    induction r with
    | zero =>
      intro t x3 ht
      have et : t = nt := by omega
      subst et
      refine pg_iload_n X d_M_anew_76 rfl ?_
      refine pg_aload_n X d_M_anew_77 rfl ?_
      refine pg_getf X (f_M_113 hG) d_M_anew_78 (px_rd_of (by first | exact R.o | exact R _ (by decide) | assumption)) rfl ?_
      rw [h04]
      refine pg_icmp_ge X d_M_anew_81 (fun c1 => ?_) (fun c1 => ?_)
      · refine pg_aload_n X d_M_anew_123 rfl ?_
        refine pc_V (ci := 4) (As := []) X Y d_M_anew_124 (c_M_183 hG) (i_M_putBack hG) (v_M_putBack hG) (fun r h => by rw [hG.2] at h; cases h; rfl) rfl rfl (Nat.le_of_ble_eq_true rfl) (by rw [hR]; exact ⟨by decide, by decide⟩) (by decide) (by decide) (by rw [hR]; first | decide | (dsimp only [px_rm]; omega)) (by rw [hR]; first | decide | (dsimp only [px_rm]; omega)) (px_rd_of (by first | exact R.o | assumption)) (t_M_putBack A S (fun μ4 π4 P S => ?_))
        have E := bk μ3 μ4 h1 P
        refine pg_iload_n X d_M_anew_127 rfl ?_
        exact pg_iret X Y d_M_anew_128 rfl (by decide) (Nat.zero_le _) (Nat.zero_le _) (k μ4 π4 E.1 E.2 S)
      · simp (disch := omega) only [Int32.lt_iff_toInt_lt, Int32.le_iff_toInt_le, nI_toInt, px_l0, px_l1, px_l2, px_l3, px_l4, px_l5, px_l6, px_l10, px_l11, px_l12, px_l16, px_l30, px_l100, px_l400] at c1
        omega
    | succ r ih =>
      intro t x3 ht
      have ht6 : t < 6 := by omega
      have h5t : μ3 5 t = ta t := by rw [h1 5 (by decide), y5]; exact h5 t ht6
      refine pg_iload_n X d_M_anew_76 rfl ?_
      refine pg_aload_n X d_M_anew_77 rfl ?_
      refine pg_getf X (f_M_113 hG) d_M_anew_78 (px_rd_of (by first | exact R.o | exact R _ (by decide) | assumption)) rfl ?_
      rw [h04]
      refine pg_icmp_ge X d_M_anew_81 (fun c1 => ?_) (fun c1 => ?_)
      · simp (disch := omega) only [Int32.lt_iff_toInt_lt, Int32.le_iff_toInt_le, nI_toInt, px_l0, px_l1, px_l2, px_l3, px_l4, px_l5, px_l6, px_l10, px_l11, px_l12, px_l16, px_l30, px_l100, px_l400] at c1
        omega
      refine pg_aload_n X d_M_anew_84 rfl ?_
      refine pg_iload_n X d_M_anew_85 rfl ?_
      refine pc_V (ci := 4) (As := [_]) X Y d_M_anew_86 (c_M_177 hG) (i_M_seenOf hG) (v_M_seenOf hG) (fun r h => by rw [hG.2] at h; cases h; rfl) rfl rfl (Nat.le_of_ble_eq_true rfl) (by rw [hR]; exact ⟨by decide, by decide⟩) (by decide) (by decide) (by rw [hR]; first | decide | (dsimp only [px_rm]; omega)) (by rw [hR]; first | decide | (dsimp only [px_rm]; omega)) (px_rd_of (by first | exact R.o | assumption)) (t_M_seenOf A R W3.1 htl ?_)
      rw [W3.sn I3 ht6]
      refine pg_aload_n X d_M_anew_89 rfl ?_
      refine pg_getf X (f_M_23 hG) d_M_anew_90 (px_rd_of (by first | exact R.o | exact R _ (by decide) | assumption)) rfl ?_
      refine pg_iload_n X d_M_anew_93 rfl ?_
      refine pg_ialdN X d_M_anew_94 (px_rd_of (by first | exact R.o | exact R _ (by decide) | assumption)) (by first | assumption | omega) (by first | assumption | omega) ?_
      refine pg_isub X d_M_anew_95 ?_
      refine pg_istore3 X d_M_anew_96 ?_
      refine pg_aload_n X d_M_anew_97 rfl ?_
      refine pg_getf X (f_M_23 hG) d_M_anew_98 (px_rd_of (by first | exact R.o | exact R _ (by decide) | assumption)) rfl ?_
      refine pg_iload_n X d_M_anew_101 rfl ?_
      refine pg_ialdN X d_M_anew_102 (px_rd_of (by first | exact R.o | exact R _ (by decide) | assumption)) (by first | assumption | omega) (by first | assumption | omega) ?_
      refine pg_iconst X (-1) d_M_anew_103 (by decide) ?_
      rw [h5t]
      refine pg_icmp_ne X d_M_anew_104 (fun c2 => ?_) (fun c2 => ?_)
      · refine pg_iload_n X d_M_anew_111 rfl ?_
        refine pg_iload_n X d_M_anew_112 rfl ?_
        refine pg_iload_n X d_M_anew_113 rfl ?_
        refine pg_imul X d_M_anew_114 ?_
        refine pg_iadd X d_M_anew_115 ?_
        refine pg_istore1 X d_M_anew_116 ?_
        refine pg_iinc2 X d_M_anew_117 ?_
        refine pg_goto X d_M_anew_120 ?_
        rw [nI_i1]
        have h7 := ih (t + 1) (some (.int (w3 4 t - ta t))) (by omega)
        rw [sqS, if_neg c2] at h7
        exact h7
      · refine pg_iload_n X d_M_anew_107 rfl ?_
        refine pg_goto X d_M_anew_108 ?_
        refine pg_istore1 X d_M_anew_116 ?_
        refine pg_iinc2 X d_M_anew_117 ?_
        refine pg_goto X d_M_anew_120 ?_
        rw [nI_i1]
        have h7 := ih (t + 1) (some (.int (w3 4 t - ta t))) (by omega)
        rw [sqS, if_pos c2] at h7
        exact h7
  -- the seconds
  have loop : ∀ r i μ3 π3, i + r = nw → INV (rnW h wd ht nt nd tl i (gbW (cpW w wt tl) tl)) wd ht nt nd tl → CW h (rnW h wd ht nt nd tl i (gbW (cpW w wt tl) tl)) μ3 nd tl → (∀ r, (r ≤ 9 ∨ r = 15 ∨ r = 17 ∨ 20 ≤ r) → μ3 r = μa r) → SM zm μ3 π0 π3 → px_G Γ G (px_Q Γ G true K) true 0 0 52 [some (.ref zm), some (.int (nI i)), none, none] [] π3 := by
    intro r
    induction r with
    | zero =>
      intro i μ3 π3 hi I3 W3 h1 S
      have ei : i = nw := by omega
      subst ei
      have R := S.1
      have h09 : μ3 0 9 = nI i := by rw [h1 0 (by decide), y0]; exact h9
      refine pg_iload_n X d_M_anew_52 rfl ?_
      refine pg_aload_n X d_M_anew_53 rfl ?_
      refine pg_getf X (f_M_119 hG) d_M_anew_54 (px_rd_of (by first | exact R.o | exact R _ (by decide) | assumption)) rfl ?_
      rw [h09]
      refine pg_icmp_ge X d_M_anew_57 (fun c1 => ?_) (fun c1 => ?_)
      · refine pg_iconst X (0) d_M_anew_72 (by decide) ?_
        refine pg_istore1 X d_M_anew_73 ?_
        refine pg_iconst X (0) d_M_anew_74 (by decide) ?_
        refine pg_istore2 X d_M_anew_75 ?_
        exact sum _ μ3 k I3 W3 h1 π3 S nt 0 none (by omega)
      · simp (disch := omega) only [Int32.lt_iff_toInt_lt, Int32.le_iff_toInt_le, nI_toInt, px_l0, px_l1, px_l2, px_l3, px_l4, px_l5, px_l6, px_l10, px_l11, px_l12, px_l16, px_l30, px_l100, px_l400] at c1
        omega
    | succ r ih =>
      intro i μ3 π3 hi I3 W3 h1 S
      have R := S.1
      have h09 : μ3 0 9 = nI nw := by rw [h1 0 (by decide), y0]; exact h9
      have kk := rnW_k (h := h) (wd := wd) (ht := ht) (nt := nt) (nd := nd) (tl := tl) (w := gbW (cpW w wt tl) tl) i
      have n1 := kk.1 0 gbW_z.1
      rw [Nat.zero_add] at n1
      have n4 := kk.2.1.trans gbW_04
      have FF3 : FM h ht nt nd (μ3 21) := by rw [h1 21 (by decide)]; exact FF2
      have C3 : CH h μ3 wd ht nt nd := by
        obtain ⟨c1, c2, c3, c4, c5, c6, c7, c8, c9, c10⟩ := C2
        unfold CH
        rw [h1 0 (by decide), h1 1 (by decide), h1 2 (by decide), h1 3 (by decide), h1 4 (by decide), h1 6 (by decide)]
        exact ⟨c1, c2, c3, c4, c5, c6, c7, c8, c9, c10⟩
      refine pg_iload_n X d_M_anew_52 rfl ?_
      refine pg_aload_n X d_M_anew_53 rfl ?_
      refine pg_getf X (f_M_119 hG) d_M_anew_54 (px_rd_of (by first | exact R.o | exact R _ (by decide) | assumption)) rfl ?_
      rw [h09]
      refine pg_icmp_ge X d_M_anew_57 (fun c1 => ?_) (fun c1 => ?_)
      · simp (disch := omega) only [Int32.lt_iff_toInt_lt, Int32.le_iff_toInt_le, nI_toInt, px_l0, px_l1, px_l2, px_l3, px_l4, px_l5, px_l6, px_l10, px_l11, px_l12, px_l16, px_l30, px_l100, px_l400] at c1
        omega
      refine pg_aload_n X d_M_anew_60 rfl ?_
      refine pg_iload_n X d_M_anew_61 rfl ?_
      refine pg_iconst X (0) d_M_anew_62 (by decide) ?_
      refine pc_V (ci := 4) (As := [_, _]) X Y d_M_anew_63 (c_M_166 hG) (i_M_pass hG) (v_M_pass hG) (fun r h => by rw [hG.2] at h; cases h; rfl) rfl rfl (Nat.le_of_ble_eq_true rfl) (by rw [hR]; exact ⟨by decide, by decide⟩) (by decide) (by decide) (by rw [hR]; first | decide | (dsimp only [px_rm]; omega)) (by rw [hR]; first | decide | (dsimp only [px_rm]; omega)) (px_rd_of (by first | exact R.o | assumption)) (t_M_pass (b := false) A S FF3 C3 B HH I3 W3 (fun q => absurd q (by decide)) (fl := 0) ⟨fun _ => n4, fun _ => rfl⟩ (fun _ => n1.symm) (fun μ4 π4 W4 Q4 R4 S => ?_))
      refine pg_iinc1 X d_M_anew_66 ?_
      refine pg_goto X d_M_anew_69 ?_
      rw [nI_i1]
      exact ih (i + 1) μ4 π4 (by omega) (psW_I I3 B HH.1) W4 (fun r hr => (R4.1 r hr).trans (h1 r hr)) S
  have reset : ∀ r i μ3 π3, i + r = 16 → RS μa μ3 i → SM zm μ3 π0 π3 → px_G Γ G (px_Q Γ G true K) true 0 0 10 [some (.ref zm), some (.int (nI i)), none, none] [] π3 := by
    intro r
    induction r with
    | zero =>
      intro i μ3 π3 hi a S
      have ei : i = 16 := by omega
      subst ei
      refine pg_iload_n X d_M_anew_10 rfl ?_
      refine pg_bipush X (16) d_M_anew_11 (by decide) ?_
      refine pg_icmp_ge X d_M_anew_13 (fun c1 => ?_) (fun c1 => ?_)
      · refine pg_iconst X (0) d_M_anew_50 (by decide) ?_
        refine pg_istore1 X d_M_anew_51 ?_
        exact loop nw 0 μ3 π3 (by omega) (I.cp.bk B.1) (W2.bk htl a) (fun r hr => a.1 r (by omega) (by omega) (by omega) (by omega)) S
      · exact absurd (by decide) c1
    | succ r ih =>
      intro i μ3 π3 hi a S
      have R := S.1
      refine pg_iload_n X d_M_anew_10 rfl ?_
      refine pg_bipush X (16) d_M_anew_11 (by decide) ?_
      refine pg_icmp_ge X d_M_anew_13 (fun c1 => ?_) (fun c1 => ?_)
      · simp (disch := omega) only [Int32.lt_iff_toInt_lt, Int32.le_iff_toInt_le, nI_toInt, px_l0, px_l1, px_l2, px_l3, px_l4, px_l5, px_l6, px_l10, px_l11, px_l12, px_l16, px_l30, px_l100, px_l400] at c1
        omega
      refine pg_aload_n X d_M_anew_16 rfl ?_
      refine pg_getf X (f_M_45 hG) d_M_anew_17 (px_rd_of (by first | exact R.o | exact R _ (by decide) | assumption)) rfl ?_
      refine pg_iload_n X d_M_anew_20 rfl ?_
      refine pg_iconst X (0) d_M_anew_21 (by decide) ?_
      refine pm_ist X S (fun _ => rfl) (by decide) d_M_anew_22 (by first | assumption | omega) (by first | assumption | omega) (fun π1 S => ?_)
      have R := S.1
      refine pg_aload_n X d_M_anew_23 rfl ?_
      refine pg_getf X (f_M_51 hG) d_M_anew_24 (px_rd_of (by first | exact R.o | exact R _ (by decide) | assumption)) rfl ?_
      refine pg_iload_n X d_M_anew_27 rfl ?_
      refine pg_iconst X (-1) d_M_anew_28 (by decide) ?_
      refine pm_ist X S (fun _ => rfl) (by decide) d_M_anew_29 (by first | assumption | omega) (by first | assumption | omega) (fun π1 S => ?_)
      have R := S.1
      refine pg_aload_n X d_M_anew_30 rfl ?_
      refine pg_getf X (f_M_54 hG) d_M_anew_31 (px_rd_of (by first | exact R.o | exact R _ (by decide) | assumption)) rfl ?_
      refine pg_iload_n X d_M_anew_34 rfl ?_
      refine pg_iconst X (0) d_M_anew_35 (by decide) ?_
      refine pm_ist X S (fun _ => rfl) (by decide) d_M_anew_36 (by first | assumption | omega) (by first | assumption | omega) (fun π1 S => ?_)
      have R := S.1
      refine pg_aload_n X d_M_anew_37 rfl ?_
      refine pg_getf X (f_M_57 hG) d_M_anew_38 (px_rd_of (by first | exact R.o | exact R _ (by decide) | assumption)) rfl ?_
      refine pg_iload_n X d_M_anew_41 rfl ?_
      refine pg_iconst X (0) d_M_anew_42 (by decide) ?_
      refine pm_ist X S (fun _ => rfl) (by decide) d_M_anew_43 (by first | assumption | omega) (by first | assumption | omega) (fun π1 S => ?_)
      have R := S.1
      refine pg_iinc1 X d_M_anew_44 ?_
      refine pg_goto X d_M_anew_47 ?_
      rw [nI_i1]
      exact ih (i + 1) _ _ (by omega) a.st S
  refine pg_iconst X (0) d_M_anew_8 (by decide) ?_
  refine pg_istore1 X d_M_anew_9 ?_
  exact reset 16 0 μa π3 rfl ⟨fun _ _ _ _ _ => rfl, fun v hv => absurd hv (Nat.not_lt_zero v)⟩ S
theorem t_M_sum (A : GA G) (S : SM zm μ π0 π) (C : CH h μ wd ht nt nd) (B : HG h wd ht nt nd n) (HH : HS h nt) (I : INV w wd ht nt nd tl) (W : CW h w μ nd tl) (h9 : μ 0 9 = nI nw) (hnw : w 0 1 = nI nw) (hnw2 : nw ≤ 400) (h5 : ∀ t, t < 6 → μ 5 t = ta t)
    (k : ∀ μ' π1, μ' 0 0 = 0 → FrE 0 μ μ' → SM zm μ' π0 π1 → K (.inl (some (.int (sqV h w wt ta wd ht nt nd tl nw)))) π1) :
    px_P l G y_M_sum b_M_sum 1 (some .int) (px_rm 7 180) true [.ref zm] π K := by
  have hG := A.1
  have hZ := A.2.1
  refine px_P.intro (by decide) hZ (by simp [Value.category]) (Nat.le_of_ble_eq_true rfl) rfl ?_
  intro Γ hl hR X Y hnm hs hbel
  subst hl
  refine pg_w ?_
  have R := S.1
  refine pg_aload_n X d_M_sum_0 rfl ?_
  refine pg_iconst X (0) d_M_sum_1 (by decide) ?_
  refine pm_put X S (j := 0) (p := 0) (f_M_91 hG) (ct_M hG) (nf_M_thrown hG) rfl (fun _ => rfl) rfl d_M_sum_2 (fun π1 S => ?_)
  have R := S.1
  refine pg_aload_n X d_M_sum_5 rfl ?_
  refine pc_V (ci := 4) (As := []) X Y d_M_sum_6 (c_M_186 hG) (i_M_anew hG) (v_M_anew hG) (fun r h => by rw [hG.2] at h; cases h; rfl) rfl rfl (Nat.le_of_ble_eq_true rfl) (by rw [hR]; exact ⟨by decide, by decide⟩) (by decide) (by decide) (by rw [hR]; first | decide | (dsimp only [px_rm]; omega)) (by rw [hR]; first | decide | (dsimp only [px_rm]; omega)) (px_rd_of (by first | exact R.o | assumption)) (t_M_anew (wt := wt) A S (C.r (FrR.s0 (tl := tl) (Or.inl rfl))) B HH I (W.s0 (Or.inl rfl)) (by rw [up2_n (by decide)]; exact h9) hnw hnw2 (by rw [up2_r (by decide)]; exact h5) (fun μ4 π4 z E S => ?_))
  exact pg_iret X Y d_M_sum_9 rfl (by decide) (Nat.zero_le _) (Nat.zero_le _) (k μ4 π4 (by rw [z, up2_s]) (FrE.t0.tr E) S)
end MAN
