/-! THE MODEL: escape -/
/-- what escape and anew leave of the model; row p is left out -/
def FrE (p : Nat) (μ μ' : Nat → Nat → Int32) : Prop := (∀ j, 1 ≤ j → μ' 0 j = μ 0 j) ∧ (∀ r, 1 ≤ r → r ≤ 9 → r ≠ p → μ' r = μ r) ∧ (∀ r v, 10 ≤ r → r ≤ 14 → v < 16 → μ' r v = μ r v) ∧ (∀ c, c < 144 → μ' 16 c = μ 16 c) ∧ ∀ d, d < 4 → μ' 18 d = μ 18 d ∧ μ' 19 d = μ 19 d
def gE (h w : Nat → Nat → Int32) (nd v : Nat) : Int32 := if w (6 + v) 4 = 1 then mgI (ndS h (w (6 + v) 5).toNatClampNeg nd).1 else -1
section MES
variable {l : Launch} {G : px_Cg} {π π0 : px_H} {K : Option Value ⊕ String → px_H → Prop} {zm n nt nd wd ht tl p : Nat} {μ μ' μ2 h w wt : Nat → Nat → Int32} {y : Int32}
theorem FrE.rf : FrE p μ μ := ⟨fun _ _ => rfl, fun _ _ _ _ => rfl, fun _ _ _ _ _ => rfl, fun _ _ => rfl, fun _ _ => ⟨rfl, rfl⟩⟩
theorem FrE.tr (a : FrE p μ μ') (c : FrE p μ' μ2) : FrE p μ μ2 := ⟨fun j h1 => (c.1 j h1).trans (a.1 j h1), fun r h1 h2 h3 => (c.2.1 r h1 h2 h3).trans (a.2.1 r h1 h2 h3), fun r v h1 h2 h3 => (c.2.2.1 r v h1 h2 h3).trans (a.2.2.1 r v h1 h2 h3), fun r h1 => (c.2.2.2.1 r h1).trans (a.2.2.2.1 r h1), fun d hd => ⟨(c.2.2.2.2 d hd).1.trans (a.2.2.2.2 d hd).1, (c.2.2.2.2 d hd).2.trans (a.2.2.2.2 d hd).2⟩⟩
theorem FrE.t0 : FrE p μ (up2 μ 0 0 y) := ⟨fun j h1 => up2_n (by omega), fun r h1 _ _ => up2_r (by omega), fun r v h1 _ _ => up2_n (by omega), fun c _ => up2_n (Or.inl (by decide)), fun d _ => ⟨up2_n (Or.inl (by decide)), up2_n (Or.inl (by decide))⟩⟩
theorem FrE.ur {f : Nat → Int32} : FrE p μ (upr μ 21 f) := ⟨fun j h1 => by rw [upr_n (by decide)], fun r h1 h2 _ => upr_n (by omega), fun r v h1 h2 _ => by rw [upr_n (by omega)], fun c _ => by rw [upr_n (by decide)], fun d _ => ⟨by rw [upr_n (by decide)], by rw [upr_n (by decide)]⟩⟩
theorem FrE.wk (a : FrE 0 μ μ') : FrE p μ μ' := ⟨a.1, fun r h1 h2 _ => a.2.1 r h1 h2 (by omega), a.2.2⟩
/-- kept, changed, put back -/
theorem FrE.back {f g e : Nat → Int32} (hk : k5 μ f 16) (hg : ∀ c, c < 144 → g c = μ 16 c) (he : k2d μ e 4) (h1 : ∀ r, (r ≤ 9 ∨ r = 15 ∨ r = 17 ∨ 20 ≤ r) → μ2 r = upr (upr (upr μ 15 f) 17 g) 20 e r) (hp : PB μ2 μ' 16 144 4) : μ' 0 = μ 0 ∧ FrE p μ μ' := by
  obtain ⟨p1, p2, p3, p4⟩ := hp
  have lo : ∀ r, r ≤ 9 → μ' r = μ r := fun r hr => by rw [p1 r (Or.inl hr), h1 r (Or.inl hr), upr_n (by omega), upr_n (by omega), upr_n (by omega)]
  have e15 : μ2 15 = f := by rw [h1 15 (by decide), upr_n (by decide), upr_n (by decide), upr_s]
  have e17 : μ2 17 = g := by rw [h1 17 (by decide), upr_n (by decide), upr_s]
  have e20 : μ2 20 = e := by rw [h1 20 (by decide), upr_s]
  rw [e15] at p2
  rw [e17] at p3
  rw [e20] at p4
  refine ⟨lo 0 (by decide), fun j _ => by rw [lo 0 (by decide)], fun r _ hr _ => lo r hr, fun r v a b hv => ?_, fun c hc => by rw [p3 c hc, hg c hc], fun d hd => ⟨by rw [(p4 d hd).1, (he d hd).1], by rw [(p4 d hd).2, (he d hd).2]⟩⟩
  obtain ⟨a0, a1, a2, a3, a4⟩ := p2 v hv
  obtain ⟨b0, b1, b2, b3, b4⟩ := hk v hv
  obtain rfl | rfl | rfl | rfl | rfl : r = 10 ∨ r = 11 ∨ r = 12 ∨ r = 13 ∨ r = 14 := by omega
  · rw [a0, b0]
  · rw [a1, b1]
  · rw [a2, b2]
  · rw [a3, b3]
  · rw [a4, b4]
theorem CW.fle (W : CW h w μ nd tl) {fg : Nat → Int32} (hf : ∀ v, v < tl → fg v = gE h w nd v) : CW h (flW (cpW w wt tl) tl) (upr μ 12 fg) nd tl := by
  refine ⟨by rw [upr_n (by decide)]; exact W.1, fun v hv => ?_⟩
  obtain ⟨v0, v1, v2, v3, v4, v5, v6, v7⟩ := W.2 v hv
  obtain ⟨g6, g7, gj⟩ := flW_v (w := cpW w wt tl) hv
  have ej : ∀ j, j ≠ 6 → j ≠ 7 → flW (cpW w wt tl) tl (6 + v) j = w (6 + v) j := fun j a b => by rw [gj j a b, cpW_v hv]
  have e04 : flW (cpW w wt tl) tl 0 4 = 1 := by rw [flW_r (by decide), up2_s]
  unfold VR
  rw [g6, g7, ej 0 (by decide) (by decide), ej 1 (by decide) (by decide), ej 2 (by decide) (by decide), ej 4 (by decide) (by decide), ej 5 (by decide) (by decide), ej 8 (by decide) (by decide), e04, upr_n (show (7 : Nat) ≠ 12 by decide), upr_n (show (8 : Nat) ≠ 12 by decide), upr_n (show (9 : Nat) ≠ 12 by decide), upr_n (show (10 : Nat) ≠ 12 by decide), upr_n (show (11 : Nat) ≠ 12 by decide), upr_n (show (13 : Nat) ≠ 12 by decide), upr_n (show (14 : Nat) ≠ 12 by decide), upr_s, hf v hv]
  refine ⟨v0, v1, v2, v3, v4, ?_, fun t ht q => absurd q.symm (nI_nm1 (by omega)), v7⟩
  unfold gE
  by_cases q : w (6 + v) 4 = 1
  · rw [if_pos q]
    exact Or.inr ⟨by decide, q, rfl, rfl⟩
  · rw [if_neg q]
    exact Or.inl mgI_n.symm
theorem nI_z {m : Nat} (hm : m ≤ 16) (q : nI m ≤ 0) : nI m = 0 := by
  simp (disch := omega) only [Int32.lt_iff_toInt_lt, Int32.le_iff_toInt_le, nI_toInt, px_l0, px_l1, px_l2, px_l3, px_l4, px_l5, px_l6, px_l10, px_l11, px_l12, px_l16, px_l30, px_l100, px_l400] at q
  have e : m = 0 := by omega
  rw [e]
  rfl
theorem CW.ins (W : CW h w μ nd tl) (I : INV w wd ht nt nd tl) : nI (cn (fun v => μ 10 v = 1) tl) = w 0 2 := by
  rw [I.2.2.2.1]
  congr 1
  exact cn_cong tl (fun u hu => by rw [(W.2 u hu).2.2.2.1])
theorem t_M_escape (A : GA G) (S : SM zm μ π0 π) (C : CH h μ wd ht nt nd) (B : HG h wd ht nt nd n) (HH : HS h nt) (I : INV w wd ht nt nd tl) (W : CW h w μ nd tl)
    (k : ∀ μ' π1, μ' 0 0 = 0 → FrE 0 μ μ' → SM zm μ' π0 π1 → K (.inl (some (.int (esR h wd ht nt nd tl 201 0 (flW (cpW w wt tl) tl))))) π1) :
    px_P l G y_M_escape b_M_escape 3 (some .int) (px_rm 6 153) true [.ref zm] π K := by
  have hG := A.1
  have hZ := A.2.1
  refine px_P.intro (by decide) hZ (by simp [Value.category]) (Nat.le_of_ble_eq_true rfl) rfl ?_
  intro Γ hl hR X Y hnm hs hbel
  subst hl
  refine pg_w ?_
  have htl := I.1.2.1
  obtain ⟨⟨b0, b1, b2, b3, b4, b5, b6, b7, b8, b9⟩, BD⟩ := id B
  have e200 : (200 : Int32) = nI 200 := rfl
  have R := S.1
  refine pg_aload_n X d_M_escape_0 rfl ?_
  refine pg_iconst X (0) d_M_escape_1 (by decide) ?_
  refine pm_put X S (j := 0) (p := 0) (f_M_91 hG) (ct_M hG) (nf_M_thrown hG) rfl (fun _ => rfl) rfl d_M_escape_2 (fun π1 S => ?_)
  have R := S.1
  refine pg_aload_n X d_M_escape_5 rfl ?_
  refine pc_V (ci := 4) (As := []) X Y d_M_escape_6 (c_M_163 hG) (i_M_measureAll hG) (v_M_measureAll hG) (fun r h => by rw [hG.2] at h; cases h; rfl) rfl rfl (Nat.le_of_ble_eq_true rfl) (by rw [hR]; exact ⟨by decide, by decide⟩) (by decide) (by decide) (by rw [hR]; first | decide | (dsimp only [px_rm]; omega)) (by rw [hR]; first | decide | (dsimp only [px_rm]; omega)) (px_rd_of (by first | exact R.o | assumption)) (t_M_measureAll A S B (C.r (FrR.s0 (tl := tl) (Or.inl rfl))) (fun f21 π2 FF S => ?_))
  have W1 : CW h w (upr (up2 μ 0 0 0) 21 f21) nd tl := (W.s0 (Or.inl rfl)).ur (by decide)
  have C1 : CH h (upr (up2 μ 0 0 0) 21 f21) wd ht nt nd := (C.r (FrR.s0 (tl := tl) (Or.inl rfl))).up (by decide)
  have FF1 : FM h ht nt nd (upr (up2 μ 0 0 0) 21 f21 21) := by rw [upr_s]; exact FF
  have E1 : FrE 0 μ (upr (up2 μ 0 0 0) 21 f21) := FrE.t0.tr FrE.ur
  have z1 : upr (up2 μ 0 0 0) 21 f21 0 0 = 0 := by rw [upr_n (by decide), up2_s]
  generalize upr (up2 μ 0 0 0) 21 f21 = μ1 at S W1 C1 FF1 E1 z1
  have R := S.1
  refine pg_aload_n X d_M_escape_9 rfl ?_
  refine pc_V (ci := 4) (As := []) X Y d_M_escape_10 (c_M_180 hG) (i_M_keep hG) (v_M_keep hG) (fun r h => by rw [hG.2] at h; cases h; rfl) rfl rfl (Nat.le_of_ble_eq_true rfl) (by rw [hR]; exact ⟨by decide, by decide⟩) (by decide) (by decide) (by rw [hR]; first | decide | (dsimp only [px_rm]; omega)) (by rw [hR]; first | decide | (dsimp only [px_rm]; omega)) (px_rd_of (by first | exact R.o | assumption)) (t_M_keep A S (fun f g e π3 hk hg he S => ?_))
  have W2 : CW h w (upr (upr (upr μ1 15 f) 17 g) 20 e) nd tl := ((W1.ur (by decide)).ur (by decide)).ur (by decide)
  have C2 : CH h (upr (upr (upr μ1 15 f) 17 g) 20 e) wd ht nt nd := ((C1.up (by decide)).up (by decide)).up (by decide)
  have FF2 : FM h ht nt nd (upr (upr (upr μ1 15 f) 17 g) 20 e 21) := by rw [upr_n (by decide), upr_n (by decide), upr_n (by decide)]; exact FF1
  have bk : ∀ μ2 μ', (∀ r, (r ≤ 9 ∨ r = 15 ∨ r = 17 ∨ 20 ≤ r) → μ2 r = upr (upr (upr μ1 15 f) 17 g) 20 e r) → PB μ2 μ' 16 144 4 → μ' 0 0 = 0 ∧ FrE 0 μ μ' := fun μ2 μ' h1 hp => by
    have E := FrE.back (p := 0) hk hg he h1 hp
    exact ⟨by rw [E.1]; exact z1, E1.tr E.2⟩
  generalize upr (upr (upr μ1 15 f) 17 g) 20 e = μa at S W2 C2 FF2 bk
  have fin : ∀ s w3 μ3 π3, s ≤ 201 → (∀ μ' π1, μ' 0 0 = 0 → FrE 0 μ μ' → SM zm μ' π0 π1 → K (.inl (some (.int (if w3 0 2 = 0 ∧ s ≤ 200 then nI s else -1)))) π1) → INV w3 wd ht nt nd tl → CW h w3 μ3 nd tl → (∀ r, (r ≤ 9 ∨ r = 15 ∨ r = 17 ∨ 20 ≤ r) → μ3 r = μa r) → SM zm μ3 π0 π3 → px_G Γ G (px_Q Γ G true K) true 0 0 82 [some (.ref zm), some (.int (nI s)), none] [] π3 := by
    intro s w3 μ3 π3 hs k I3 W3 h1 S
    have R := S.1
    refine pg_aload_n X d_M_escape_82 rfl ?_
    refine pc_V (ci := 4) (As := []) X Y d_M_escape_83 (c_M_169 hG) (i_M_inside hG) (v_M_inside hG) (fun r h => by rw [hG.2] at h; cases h; rfl) rfl rfl (Nat.le_of_ble_eq_true rfl) (by rw [hR]; exact ⟨by decide, by decide⟩) (by decide) (by decide) (by rw [hR]; first | decide | (dsimp only [px_rm]; omega)) (by rw [hR]; first | decide | (dsimp only [px_rm]; omega)) (px_rd_of (by first | exact R.o | assumption)) (t_M_inside A R W3.1 htl ?_)
    rw [W3.ins I3]
    refine pg_if_ne X d_M_escape_86 (fun c1 => ?_) (fun c1 => ?_)
    · rw [if_neg (fun q => c1 q.1)] at k
      refine pg_iconst X (0) d_M_escape_93 (by decide) ?_
      refine pg_istore2 X d_M_escape_94 ?_
      refine pg_aload_n X d_M_escape_95 rfl ?_
      refine pc_V (ci := 4) (As := []) X Y d_M_escape_96 (c_M_183 hG) (i_M_putBack hG) (v_M_putBack hG) (fun r h => by rw [hG.2] at h; cases h; rfl) rfl rfl (Nat.le_of_ble_eq_true rfl) (by rw [hR]; exact ⟨by decide, by decide⟩) (by decide) (by decide) (by rw [hR]; first | decide | (dsimp only [px_rm]; omega)) (by rw [hR]; first | decide | (dsimp only [px_rm]; omega)) (px_rd_of (by first | exact R.o | assumption)) (t_M_putBack A S (fun μ4 π4 P S => ?_))
      have E := bk μ3 μ4 h1 P
      refine pg_iload_n X d_M_escape_99 rfl ?_
      refine pg_if_eq X d_M_escape_100 (fun c2 => ?_) (fun c2 => ?_)
      · refine pg_iconst X (-1) d_M_escape_114 (by decide) ?_
        exact pg_iret X Y d_M_escape_115 rfl (by decide) (Nat.zero_le _) (Nat.zero_le _) (k μ4 π4 E.1 E.2 S)
      · exact absurd rfl c2
    · refine pg_iconst X (1) d_M_escape_89 (by decide) ?_
      refine pg_goto X d_M_escape_90 ?_
      refine pg_istore2 X d_M_escape_94 ?_
      refine pg_aload_n X d_M_escape_95 rfl ?_
      refine pc_V (ci := 4) (As := []) X Y d_M_escape_96 (c_M_183 hG) (i_M_putBack hG) (v_M_putBack hG) (fun r h => by rw [hG.2] at h; cases h; rfl) rfl rfl (Nat.le_of_ble_eq_true rfl) (by rw [hR]; exact ⟨by decide, by decide⟩) (by decide) (by decide) (by rw [hR]; first | decide | (dsimp only [px_rm]; omega)) (by rw [hR]; first | decide | (dsimp only [px_rm]; omega)) (px_rd_of (by first | exact R.o | assumption)) (t_M_putBack A S (fun μ4 π4 P S => ?_))
      have E := bk μ3 μ4 h1 P
      refine pg_iload_n X d_M_escape_99 rfl ?_
      refine pg_if_eq X d_M_escape_100 (fun c2 => ?_) (fun c2 => ?_)
      · exact absurd c2 (by decide)
      refine pg_iload_n X d_M_escape_103 rfl ?_
      refine pg_sipush X (200) d_M_escape_104 (by decide) ?_
      rw [e200]
      refine pg_icmp_gt X d_M_escape_107 (fun c3 => ?_) (fun c3 => ?_)
      · simp (disch := omega) only [Int32.lt_iff_toInt_lt, Int32.le_iff_toInt_le, nI_toInt, px_l0, px_l1, px_l2, px_l3, px_l4, px_l5, px_l6, px_l10, px_l11, px_l12, px_l16, px_l30, px_l100, px_l400] at c3
        rw [if_neg (by omega)] at k
        refine pg_iconst X (-1) d_M_escape_114 (by decide) ?_
        exact pg_iret X Y d_M_escape_115 rfl (by decide) (Nat.zero_le _) (Nat.zero_le _) (k μ4 π4 E.1 E.2 S)
      · simp (disch := omega) only [Int32.lt_iff_toInt_lt, Int32.le_iff_toInt_le, nI_toInt, px_l0, px_l1, px_l2, px_l3, px_l4, px_l5, px_l6, px_l10, px_l11, px_l12, px_l16, px_l30, px_l100, px_l400] at c3
        rw [if_pos ⟨c1, by omega⟩] at k
        refine pg_iload_n X d_M_escape_110 rfl ?_
        refine pg_goto X d_M_escape_111 ?_
        exact pg_iret X Y d_M_escape_115 rfl (by decide) (Nat.zero_le _) (Nat.zero_le _) (k μ4 π4 E.1 E.2 S)
  have loop : ∀ f s, s + f = 201 → ∀ w3 μ3 π3, (∀ μ' π1, μ' 0 0 = 0 → FrE 0 μ μ' → SM zm μ' π0 π1 → K (.inl (some (.int (esR h wd ht nt nd tl f s w3)))) π1) → INV w3 wd ht nt nd tl → CW h w3 μ3 nd tl → w3 0 4 = 1 → (∀ r, (r ≤ 9 ∨ r = 15 ∨ r = 17 ∨ 20 ≤ r) → μ3 r = μa r) → FM h ht nt nd (μ3 21) → CH h μ3 wd ht nt nd → SM zm μ3 π0 π3 → px_G Γ G (px_Q Γ G true K) true 0 0 56 [some (.ref zm), some (.int (nI s)), none] [] π3 := by
    intro f
    induction f with
    | zero =>
      intro s hs w3 μ3 π3 k I3 W3 h04 h1 FF3 C3 S
      have R := S.1
      have kk : ∀ μ' π1, μ' 0 0 = 0 → FrE 0 μ μ' → SM zm μ' π0 π1 → K (.inl (some (.int (if w3 0 2 = 0 ∧ s ≤ 200 then nI s else -1)))) π1 := by
        rw [if_neg (by omega)]
        exact k
      refine pg_aload_n X d_M_escape_56 rfl ?_
      refine pc_V (ci := 4) (As := []) X Y d_M_escape_57 (c_M_169 hG) (i_M_inside hG) (v_M_inside hG) (fun r h => by rw [hG.2] at h; cases h; rfl) rfl rfl (Nat.le_of_ble_eq_true rfl) (by rw [hR]; exact ⟨by decide, by decide⟩) (by decide) (by decide) (by rw [hR]; first | decide | (dsimp only [px_rm]; omega)) (by rw [hR]; first | decide | (dsimp only [px_rm]; omega)) (px_rd_of (by first | exact R.o | assumption)) (t_M_inside A R W3.1 htl ?_)
      rw [W3.ins I3]
      refine pg_if_le X d_M_escape_60 (fun c1 => ?_) (fun c1 => ?_)
      · exact fin s w3 μ3 π3 (by omega) kk I3 W3 h1 S
      refine pg_iload_n X d_M_escape_63 rfl ?_
      refine pg_sipush X (200) d_M_escape_64 (by decide) ?_
      rw [e200]
      refine pg_icmp_gt X d_M_escape_67 (fun c2 => ?_) (fun c2 => ?_)
      · exact fin s w3 μ3 π3 (by omega) kk I3 W3 h1 S
      · simp (disch := omega) only [Int32.lt_iff_toInt_lt, Int32.le_iff_toInt_le, nI_toInt, px_l0, px_l1, px_l2, px_l3, px_l4, px_l5, px_l6, px_l10, px_l11, px_l12, px_l16, px_l30, px_l100, px_l400] at c2
        omega
    | succ f ih =>
      intro s hs w3 μ3 π3 k I3 W3 h04 h1 FF3 C3 S
      have R := S.1
      refine pg_aload_n X d_M_escape_56 rfl ?_
      refine pc_V (ci := 4) (As := []) X Y d_M_escape_57 (c_M_169 hG) (i_M_inside hG) (v_M_inside hG) (fun r h => by rw [hG.2] at h; cases h; rfl) rfl rfl (Nat.le_of_ble_eq_true rfl) (by rw [hR]; exact ⟨by decide, by decide⟩) (by decide) (by decide) (by rw [hR]; first | decide | (dsimp only [px_rm]; omega)) (by rw [hR]; first | decide | (dsimp only [px_rm]; omega)) (px_rd_of (by first | exact R.o | assumption)) (t_M_inside A R W3.1 htl ?_)
      rw [W3.ins I3]
      refine pg_if_le X d_M_escape_60 (fun c1 => ?_) (fun c1 => ?_)
      · have q0 : w3 0 2 = 0 := by
          rw [I3.2.2.2.1] at c1 ⊢
          exact nI_z (Nat.le_trans (cn_le tl) htl) c1
        simp only [esR, if_pos q0] at k
        refine fin s w3 μ3 π3 (by omega) ?_ I3 W3 h1 S
        rw [if_pos ⟨q0, by omega⟩]
        exact k
      · have q0 : ¬ w3 0 2 = 0 := fun q => c1 (by rw [q]; decide)
        simp only [esR, if_neg q0] at k
        refine pg_iload_n X d_M_escape_63 rfl ?_
        refine pg_sipush X (200) d_M_escape_64 (by decide) ?_
        rw [e200]
        refine pg_icmp_gt X d_M_escape_67 (fun c2 => ?_) (fun c2 => ?_)
        · simp (disch := omega) only [Int32.lt_iff_toInt_lt, Int32.le_iff_toInt_le, nI_toInt, px_l0, px_l1, px_l2, px_l3, px_l4, px_l5, px_l6, px_l10, px_l11, px_l12, px_l16, px_l30, px_l100, px_l400] at c2
          omega
        refine pg_aload_n X d_M_escape_70 rfl ?_
        refine pg_iconst X (0) d_M_escape_71 (by decide) ?_
        refine pg_iconst X (1) d_M_escape_72 (by decide) ?_
        refine pc_V (ci := 4) (As := [_, _]) X Y d_M_escape_73 (c_M_166 hG) (i_M_pass hG) (v_M_pass hG) (fun r h => by rw [hG.2] at h; cases h; rfl) rfl rfl (Nat.le_of_ble_eq_true rfl) (by rw [hR]; exact ⟨by decide, by decide⟩) (by decide) (by decide) (by rw [hR]; first | decide | (dsimp only [px_rm]; omega)) (by rw [hR]; first | decide | (dsimp only [px_rm]; omega)) (px_rd_of (by first | exact R.o | assumption)) (t_M_pass (b := false) A S FF3 C3 B HH I3 W3 (fun q => absurd q (by decide)) (fl := 1) ⟨fun q => absurd q (by decide), fun q => absurd (h04.symm.trans q) (by decide)⟩ (fun q => absurd (h04.symm.trans q) (by decide)) (fun μ4 π4 W4 Q4 R4 S => ?_))
        refine pg_iinc1 X d_M_escape_76 ?_
        refine pg_goto X d_M_escape_79 ?_
        rw [nI_i1]
        exact ih (s + 1) (by omega) _ μ4 π4 k (psW_I I3 B HH.1) W4 (by rw [psW_k.2.1]; exact h04) (fun r hr => (R4.1 r hr).trans (h1 r hr)) (FF3.fr R4) (C3.fr R4) S
  have goal : ∀ r i fg π3, i + r = tl → (∀ v, v < i → fg v = gE h w nd v) → SM zm (upr μa 12 fg) π0 π3 → px_G Γ G (px_Q Γ G true K) true 0 0 15 [some (.ref zm), some (.int (nI i)), none] [] π3 := by
    intro r
    induction r with
    | zero =>
      intro i fg π3 hi hf S
      have ei : i = tl := by omega
      subst ei
      have R := S.1
      refine pg_iload_n X d_M_escape_15 rfl ?_
      refine pg_aload_n X d_M_escape_16 rfl ?_
      refine pg_getf X (f_M_98 hG) d_M_escape_17 (px_rd_of (by first | exact R.o | exact R _ (by decide) | assumption)) rfl ?_
      rw [upr_n (by decide), W2.1]
      refine pg_icmp_ge X d_M_escape_20 (fun c1 => ?_) (fun c1 => ?_)
      · refine pg_iconst X (0) d_M_escape_54 (by decide) ?_
        refine pg_istore1 X d_M_escape_55 ?_
        refine loop 201 0 rfl _ (upr μa 12 fg) π3 k I.cp.fl (W2.fle hf) (by rw [flW_r (by decide), up2_s]) (fun r hr => upr_n (by omega)) (by rw [upr_n (by decide)]; exact FF2) (C2.up (by decide)) S
      · simp (disch := omega) only [Int32.lt_iff_toInt_lt, Int32.le_iff_toInt_le, nI_toInt, px_l0, px_l1, px_l2, px_l3, px_l4, px_l5, px_l6, px_l10, px_l11, px_l12, px_l16, px_l30, px_l100, px_l400] at c1
        omega
    | succ r ih =>
      intro i fg π3 hi hf S
      have R := S.1
      have hi16 : i < 16 := by omega
      have hit : i < tl := by omega
      have V := W2.2 i hit
      obtain ⟨⟨c, hc1, hc2⟩, -, -⟩ := I.1.2.2 i hit
      have hcl := inC_lt hc2
      have hcl2 := inC_144 b4.2 b5.2 hc2
      have next : ∀ x π4, x = gE h w nd i → SM zm (up2 (upr μa 12 fg) 12 i x) π0 π4 → px_G Γ G (px_Q Γ G true K) true 0 0 48 [some (.ref zm), some (.int (nI i)), none] [] π4 := by
        intro x π4 hx S
        rw [up2_upr] at S
        refine pg_iinc1 X d_M_escape_48 ?_
        refine pg_goto X d_M_escape_51 ?_
        rw [nI_i1]
        refine ih (i + 1) _ π4 (by omega) (fun v hv => ?_) S
        unfold upd
        by_cases q : v = i
        · rw [if_pos q, q, hx]
        · rw [if_neg q]
          exact hf v (by omega)
      refine pg_iload_n X d_M_escape_15 rfl ?_
      refine pg_aload_n X d_M_escape_16 rfl ?_
      refine pg_getf X (f_M_98 hG) d_M_escape_17 (px_rd_of (by first | exact R.o | exact R _ (by decide) | assumption)) rfl ?_
      rw [upr_n (by decide), W2.1]
      refine pg_icmp_ge X d_M_escape_20 (fun c1 => ?_) (fun c1 => ?_)
      · simp (disch := omega) only [Int32.lt_iff_toInt_lt, Int32.le_iff_toInt_le, nI_toInt, px_l0, px_l1, px_l2, px_l3, px_l4, px_l5, px_l6, px_l10, px_l11, px_l12, px_l16, px_l30, px_l100, px_l400] at c1
        omega
      refine pg_aload_n X d_M_escape_23 rfl ?_
      refine pg_getf X (f_M_51 hG) d_M_escape_24 (px_rd_of (by first | exact R.o | exact R _ (by decide) | assumption)) rfl ?_
      refine pg_iload_n X d_M_escape_27 rfl ?_
      refine pg_aload_n X d_M_escape_28 rfl ?_
      refine pg_getf X (f_M_45 hG) d_M_escape_29 (px_rd_of (by first | exact R.o | exact R _ (by decide) | assumption)) rfl ?_
      refine pg_iload_n X d_M_escape_32 rfl ?_
      refine pg_ialdN X d_M_escape_33 (px_rd_of (by first | exact R.o | exact R _ (by decide) | assumption)) (by first | assumption | omega) (by first | assumption | omega) ?_
      refine pg_iconst X (1) d_M_escape_34 (by decide) ?_
      rw [upr_n (show (10 : Nat) ≠ 12 by decide), V.2.2.2.1]
      refine pg_icmp_ne X d_M_escape_35 (fun c2 => ?_) (fun c2 => ?_)
      · refine pg_iconst X (-1) d_M_escape_46 (by decide) ?_
        refine pm_ist X S (fun _ => rfl) (by decide) d_M_escape_47 (by first | assumption | omega) (by first | assumption | omega) (fun π1 S => ?_)
        have R := S.1
        exact next _ _ (by unfold gE; rw [if_neg c2]) S
      · have h11 : upr μa 12 fg 11 i = nI c := by rw [upr_n (by decide), V.2.2.2.2.1 c2, hc1]
        refine pg_aload_n X d_M_escape_38 rfl ?_
        refine pg_iload_n X d_M_escape_39 rfl ?_
        refine pc_V (ci := 4) (As := [_]) X Y d_M_escape_40 (c_M_139 hG) (i_M_nearest hG) (v_M_nearest hG) (fun r h => by rw [hG.2] at h; cases h; rfl) rfl rfl (Nat.le_of_ble_eq_true rfl) (by rw [hR]; exact ⟨by decide, by decide⟩) (by decide) (by decide) (by rw [hR]; first | decide | (dsimp only [px_rm]; omega)) (by rw [hR]; first | decide | (dsimp only [px_rm]; omega)) (px_rd_of (by first | exact R.o | assumption)) (t_M_nearest (h := h) (nt := nt) (ht := ht) (nd := nd) A R (by rw [upr_n (by decide)]; exact FF2) (by rw [upr_n (by decide)]; exact C2.2.2.2.2.1) b7 b5.2 hi16 hcl h11 ?_)
        refine pg_goto X d_M_escape_43 ?_
        refine pm_ist X S (fun _ => rfl) (by decide) d_M_escape_47 (by first | assumption | omega) (by first | assumption | omega) (fun π1 S => ?_)
        have R := S.1
        exact next _ _ (by unfold gE; rw [if_pos c2, hc1, nI_clamp (by omega)]) S
  have R := S.1
  refine pg_iconst X (0) d_M_escape_13 (by decide) ?_
  refine pg_istore1 X d_M_escape_14 ?_
  have S : SM zm (upr μa 12 (μa 12)) π0 π3 := by rw [upr_same]; exact S
  exact goal tl 0 _ π3 (by omega) (fun v hv => absurd hv (Nat.not_lt_zero v)) S
end MES
