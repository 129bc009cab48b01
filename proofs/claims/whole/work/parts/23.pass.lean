/-! WALK: a second passes; telling; fleeing; starting anew -/
def px_it (f : Nat → (Nat → Nat → Int32) → (Nat → Nat → Int32)) : Nat → (Nat → Nat → Int32) → (Nat → Nat → Int32)
  | 0, w => w
  | k + 1, w => f k (px_it f k w)
section PAS
variable {l : Launch} {G : px_Cg} {π π0 : px_H} {K : Option Value ⊕ String → px_H → Prop} {zh zw n nt nd wd ht tl : Nat} {h w : Nat → Nat → Int32}
noncomputable def psI (h : Nat → Nat → Int32) (wd ht nt nd tl : Nat) (i : Nat) (w : Nat → Nat → Int32) : Nat → Nat → Int32 :=
  if w (6 + i) 4 = 1 then goW h w i wd ht nt nd tl else if w (6 + i) 4 = 0 ∧ w (6 + i) 0 ≤ w 0 1 ∧ w 0 4 = 0 then (if w 1 (h 2 (w (6 + i) 1).toNatClampNeg).toNatClampNeg < h 0 5 then inW w i (h 2 (w (6 + i) 1).toNatClampNeg).toNatClampNeg (w (6 + i) 1).toNatClampNeg else w) else w
def ssI (i : Nat) (w : Nat → Nat → Int32) : Nat → Nat → Int32 := if w (6 + i) 4 = 1 then up2 w 2 (w (6 + i) 5).toNatClampNeg (w 2 (w (6 + i) 5).toNatClampNeg + 1) else w
noncomputable def psW (h : Nat → Nat → Int32) (wd ht nt nd tl : Nat) (w : Nat → Nat → Int32) : Nat → Nat → Int32 := up2 (px_it ssI tl (px_it (psI h wd ht nt nd tl) tl w)) 0 1 (px_it ssI tl (px_it (psI h wd ht nt nd tl) tl w) 0 1 + 1)
theorem psI_F (B : HF h wd ht nt nd n) (F : WF w wd ht nt nd tl) {i : Nat} (hi : i < tl) : WF (psI h wd ht nt nd tl i w) wd ht nt nd tl := by
  obtain ⟨B0, B1, B3, B4, Bw, Bh, Bt, Bd, Bn, Bg⟩ := B
  unfold psI
  split
  · exact goB_F (goA_F F) Bw.2 Bh.2 hi
  · split
    · split
      · obtain ⟨-, -, d, hd1, hd2⟩ := F.2.2 i hi
        obtain ⟨c, hc1, hc2⟩ := Bg (6 + d) (Or.inr (by omega))
        have hc3 := inC_144 Bw.2 Bh.2 hc2
        rw [hd1, nI_clamp (by omega), hc1, nI_clamp (by omega)]
        exact F.iW hc2
      · exact F
    · exact F
theorem ssI_F (F : WF w wd ht nt nd tl) {i : Nat} : WF (ssI i w) wd ht nt nd tl := by
  unfold ssI
  split
  · exact F.ua (by decide) (by decide)
  · exact F
theorem it_F {f : Nat → (Nat → Nat → Int32) → (Nat → Nat → Int32)} (F : WF w wd ht nt nd tl) (hf : ∀ i w, i < tl → WF w wd ht nt nd tl → WF (f i w) wd ht nt nd tl) : ∀ k, k ≤ tl → WF (px_it f k w) wd ht nt nd tl
  | 0, _ => F
  | k + 1, hk => hf k _ (by omega) (it_F F hf k (by omega))
theorem psW_F (B : HF h wd ht nt nd n) (F : WF w wd ht nt nd tl) : WF (psW h wd ht nt nd tl w) wd ht nt nd tl :=
  (it_F (it_F F (fun i w hi F => psI_F B F hi) tl (Nat.le_refl _)) (fun i w hi F => ssI_F F) tl (Nat.le_refl _)).u0 (by decide)
theorem t_K_passSecond (A : GA G) (S : SW zw zh n w h π0 π) (B : HF h wd ht nt nd n) (F : WF w wd ht nt nd tl)
    (k : ∀ π1, SW zw zh n (psW h wd ht nt nd tl w) h π0 π1 → K (.inl none) π1) :
    px_P l G y_K_passSecond b_K_passSecond 3 none (px_rm 4 92) true [.ref zw] π K := by
  have hG := A.1
  have hZ := A.2.1
  refine px_P.intro (by decide) hZ (by simp [Value.category]) (Nat.le_of_ble_eq_true rfl) rfl ?_
  intro Γ hl hR X Y hnm hs hbel
  subst hl
  refine pg_w ?_
  have Ftl := F.2.1
  have Bn := B.2.2.2.2.2.2.2.2.1
  have Bw := B.2.2.2.2.1
  have Bh := B.2.2.2.2.2.1
  have loop2 : ∀ w1, WF w1 wd ht nt nd tl → ∀ f i, i + f = tl → ∀ π1 x, SW zw zh n (px_it ssI i w1) h π0 π1 → (∀ π2, SW zw zh n (up2 (px_it ssI tl w1) 0 1 (px_it ssI tl w1 0 1 + 1)) h π0 π2 → K (.inl none) π2) → px_G Γ G (px_Q Γ G true K) true 0 0 71 [some (.ref zw), some (.int (nI i)), x] [] π1 := by
    intro w1 F1 f
    induction f with
    | zero =>
      intro i hi π1 x S k
      have ei : i = tl := by omega
      subst ei
      have F2 : WF (px_it ssI i w1) wd ht nt nd i := it_F F1 (fun i w hi F => ssI_F F) i (Nat.le_refl _)
      generalize px_it ssI i w1 = w2 at S k F2
      have ho := S.1.o
      have hvs := S.1.vs
      have hcr := S.1.cr
      have hsd := S.1.sd
      have hca := S.1.ca
      have hdn := S.1.dn
      have hh := S.2.1.o
      have hgc := S.2.1.gc
      have hit := S.2.1.it
      have hsy := S.2.1.sy
      have h0 := F2.1
      rw [h0] at ho
      refine pg_iload_n X d_K_passSecond_71 rfl ?_
      refine pg_aload_n X d_K_passSecond_72 rfl ?_
      refine pg_getf X (f_K_24 hG) d_K_passSecond_73 (px_rd_of (by assumption)) rfl ?_
      refine pg_icmp_ge X d_K_passSecond_76 (fun c1 => ?_) (fun c1 => ?_)
      · have ho2 := S.1.o
        clear ho
        refine pg_aload_n X d_K_passSecond_116 rfl ?_
        refine pg_dup X d_K_passSecond_117 rfl ?_
        refine pg_getf X (f_K_28 hG) d_K_passSecond_118 (px_rd_of (by assumption)) rfl ?_
        refine pg_iconst X (1) d_K_passSecond_121 (by decide) ?_
        refine pg_iadd X d_K_passSecond_122 ?_
        refine pw_s X hG S (j := 1) rfl (f_K_28 hG) (nf_K_now hG) rfl rfl d_K_passSecond_123 (by decide) (fun π1 S => ?_)
        exact pg_vret X Y d_K_passSecond_126 (by decide) (Nat.zero_le _) (Nat.zero_le _) (k _ S)
      · simp (disch := omega) only [Int32.lt_iff_toInt_lt, Int32.le_iff_toInt_le, nI_toInt, px_l0, px_l1, px_l2, px_l3, px_l4, px_l5, px_l6, px_l10, px_l11, px_l12, px_l16, px_l30, px_l100, px_l400] at c1
        omega
    | succ f ih =>
      intro i hi π1 x S k
      have F2 : WF (px_it ssI i w1) wd ht nt nd tl := it_F F1 (fun i w hi F => ssI_F F) i (by omega)
      have h7 := ih (i + 1) (by omega)
      rw [px_it] at h7
      generalize px_it ssI i w1 = w2 at S h7 F2
      have ho := S.1.o
      have hvs := S.1.vs
      have hcr := S.1.cr
      have hsd := S.1.sd
      have hca := S.1.ca
      have hdn := S.1.dn
      have hh := S.2.1.o
      have hgc := S.2.1.gc
      have hit := S.2.1.it
      have hsy := S.2.1.sy
      have hv := S.1.v (i := i) (by first | assumption | omega)
      have h0 := F2.1
      rw [h0] at ho
      obtain ⟨⟨c, hc1, hc2⟩, -, -⟩ := F2.2.2 i (by omega)
      have hc4 := inC_lt hc2
      have hc3 := inC_144 Bw.2 Bh.2 hc2
      have hv2 := hv
      rw [hc1] at hv2
      clear hv
      unfold ssI at h7
      rw [hc1, nI_clamp (by omega)] at h7
      refine pg_iload_n X d_K_passSecond_71 rfl ?_
      refine pg_aload_n X d_K_passSecond_72 rfl ?_
      refine pg_getf X (f_K_24 hG) d_K_passSecond_73 (px_rd_of (by assumption)) rfl ?_
      refine pg_icmp_ge X d_K_passSecond_76 (fun c1 => ?_) (fun c1 => ?_)
      · simp (disch := omega) only [Int32.lt_iff_toInt_lt, Int32.le_iff_toInt_le, nI_toInt, px_l0, px_l1, px_l2, px_l3, px_l4, px_l5, px_l6, px_l10, px_l11, px_l12, px_l16, px_l30, px_l100, px_l400] at c1
        omega
      refine pg_aload_n X d_K_passSecond_79 rfl ?_
      refine pg_getf X (f_K_11 hG) d_K_passSecond_80 (px_rd_of (by assumption)) rfl ?_
      refine pg_iload_n X d_K_passSecond_83 rfl ?_
      refine pg_aaldN X d_K_passSecond_84 (px_rd_of (by assumption)) rfl (by first | assumption | omega) (by first | assumption | omega) (by rfl) ?_
      refine pg_getf X (f_K_97 hG) d_K_passSecond_85 (px_rd_of (by assumption)) rfl ?_
      refine pg_iconst X (1) d_K_passSecond_88 (by decide) ?_
      refine pg_icmp_ne X d_K_passSecond_89 (fun c2 => ?_) (fun c2 => ?_)
      · rw [if_neg c2] at h7
        refine pg_iinc1 X d_K_passSecond_110 ?_
        refine pg_goto X d_K_passSecond_113 ?_
        rw [nI_i1]
        exact h7 π1 x S k
      · rw [if_pos c2] at h7
        refine pg_aload_n X d_K_passSecond_92 rfl ?_
        refine pg_getf X (f_K_54 hG) d_K_passSecond_93 (px_rd_of (by assumption)) rfl ?_
        refine pg_aload_n X d_K_passSecond_96 rfl ?_
        refine pg_getf X (f_K_11 hG) d_K_passSecond_97 (px_rd_of (by assumption)) rfl ?_
        refine pg_iload_n X d_K_passSecond_100 rfl ?_
        refine pg_aaldN X d_K_passSecond_101 (px_rd_of (by assumption)) rfl (by first | assumption | omega) (by first | assumption | omega) (by rfl) ?_
        refine pg_getf X (f_K_106 hG) d_K_passSecond_102 (px_rd_of (by assumption)) rfl ?_
        refine pg_dup2 X d_K_passSecond_105 rfl rfl ?_
        refine pg_ialdN X d_K_passSecond_106 (px_rd_of (by assumption)) (by first | assumption | omega) (by first | assumption | omega) ?_
        refine pg_iconst X (1) d_K_passSecond_107 (by decide) ?_
        refine pg_iadd X d_K_passSecond_108 ?_
        refine pw_a X S (Or.inr (Or.inl ⟨rfl, rfl, rfl⟩)) d_K_passSecond_109 (by first | assumption | omega) (by first | assumption | omega) (fun π1 S => ?_)
        refine pg_iinc1 X d_K_passSecond_110 ?_
        refine pg_goto X d_K_passSecond_113 ?_
        rw [nI_i1]
        exact h7 π1 x S k
  have loop1 : ∀ f i, i + f = tl → ∀ π1 x, SW zw zh n (px_it (psI h wd ht nt nd tl) i w) h π0 π1 → px_G Γ G (px_Q Γ G true K) true 0 0 2 [some (.ref zw), some (.int (nI i)), x] [] π1 := by
    intro f
    induction f with
    | zero =>
      intro i hi π1 x S
      have ei : i = tl := by omega
      subst ei
      have F2 : WF (px_it (psI h wd ht nt nd i) i w) wd ht nt nd i := it_F F (fun i w hi F => psI_F B F hi) i (Nat.le_refl _)
      unfold psW at k
      generalize px_it (psI h wd ht nt nd i) i w = w2 at S k F2
      have ho := S.1.o
      have hvs := S.1.vs
      have hcr := S.1.cr
      have hsd := S.1.sd
      have hca := S.1.ca
      have hdn := S.1.dn
      have hh := S.2.1.o
      have hgc := S.2.1.gc
      have hit := S.2.1.it
      have hsy := S.2.1.sy
      have h0 := F2.1
      rw [h0] at ho
      refine pg_iload_n X d_K_passSecond_2 rfl ?_
      refine pg_aload_n X d_K_passSecond_3 rfl ?_
      refine pg_getf X (f_K_24 hG) d_K_passSecond_4 (px_rd_of (by assumption)) rfl ?_
      refine pg_icmp_ge X d_K_passSecond_7 (fun c1 => ?_) (fun c1 => ?_)
      · refine pg_iconst X (0) d_K_passSecond_69 (by decide) ?_
        refine pg_istore1 X d_K_passSecond_70 ?_
        exact loop2 w2 F2 i 0 (by omega) π1 x S k
      · simp (disch := omega) only [Int32.lt_iff_toInt_lt, Int32.le_iff_toInt_le, nI_toInt, px_l0, px_l1, px_l2, px_l3, px_l4, px_l5, px_l6, px_l10, px_l11, px_l12, px_l16, px_l30, px_l100, px_l400] at c1
        omega
    | succ f ih =>
      intro i hi π1 x S
      have F2 : WF (px_it (psI h wd ht nt nd tl) i w) wd ht nt nd tl := it_F F (fun i w hi F => psI_F B F hi) i (by omega)
      have h7 := ih (i + 1) (by omega)
      rw [px_it] at h7
      generalize px_it (psI h wd ht nt nd tl) i w = w2 at S h7 F2
      have ho := S.1.o
      have hvs := S.1.vs
      have hcr := S.1.cr
      have hsd := S.1.sd
      have hca := S.1.ca
      have hdn := S.1.dn
      have hh := S.2.1.o
      have hgc := S.2.1.gc
      have hit := S.2.1.it
      have hsy := S.2.1.sy
      have hv := S.1.v (i := i) (by first | assumption | omega)
      have h0 := F2.1
      rw [h0] at ho
      have next : ∀ π1 x, SW zw zh n (psI h wd ht nt nd tl i w2) h π0 π1 → px_G Γ G (px_Q Γ G true K) true 0 0 63 [some (.ref zw), some (.int (nI i)), x] [] π1 := by
        intro π1 x S
        refine pg_iinc1 X d_K_passSecond_63 ?_
        refine pg_goto X d_K_passSecond_66 ?_
        rw [nI_i1]
        exact h7 π1 x S
      unfold psI at next
      refine pg_iload_n X d_K_passSecond_2 rfl ?_
      refine pg_aload_n X d_K_passSecond_3 rfl ?_
      refine pg_getf X (f_K_24 hG) d_K_passSecond_4 (px_rd_of (by assumption)) rfl ?_
      refine pg_icmp_ge X d_K_passSecond_7 (fun c1 => ?_) (fun c1 => ?_)
      · simp (disch := omega) only [Int32.lt_iff_toInt_lt, Int32.le_iff_toInt_le, nI_toInt, px_l0, px_l1, px_l2, px_l3, px_l4, px_l5, px_l6, px_l10, px_l11, px_l12, px_l16, px_l30, px_l100, px_l400] at c1
        omega
      refine pg_aload_n X d_K_passSecond_10 rfl ?_
      refine pg_getf X (f_K_11 hG) d_K_passSecond_11 (px_rd_of (by assumption)) rfl ?_
      refine pg_iload_n X d_K_passSecond_14 rfl ?_
      refine pg_aaldN X d_K_passSecond_15 (px_rd_of (by assumption)) rfl (by first | assumption | omega) (by first | assumption | omega) (by rfl) ?_
      refine pg_astore2 X d_K_passSecond_16 ?_
      refine pg_aload_n X d_K_passSecond_17 rfl ?_
      refine pg_getf X (f_K_97 hG) d_K_passSecond_18 (px_rd_of (by assumption)) rfl ?_
      refine pg_iconst X (1) d_K_passSecond_21 (by decide) ?_
      refine pg_icmp_ne X d_K_passSecond_22 (fun c2 => ?_) (fun c2 => ?_)
      · rw [if_neg c2] at next
        refine pg_aload_n X d_K_passSecond_33 rfl ?_
        refine pg_getf X (f_K_97 hG) d_K_passSecond_34 (px_rd_of (by assumption)) rfl ?_
        refine pg_if_ne X d_K_passSecond_37 (fun c3 => ?_) (fun c3 => ?_)
        · rw [if_neg (fun q => c3 q.1)] at next
          exact next π1 _ S
        refine pg_aload_n X d_K_passSecond_40 rfl ?_
        refine pg_getf X (f_K_58 hG) d_K_passSecond_41 (px_rd_of (by assumption)) rfl ?_
        refine pg_aload_n X d_K_passSecond_44 rfl ?_
        refine pg_getf X (f_K_28 hG) d_K_passSecond_45 (px_rd_of (by assumption)) rfl ?_
        refine pg_icmp_gt X d_K_passSecond_48 (fun c4 => ?_) (fun c4 => ?_)
        · rw [if_neg (fun q => k2_nle c4 q.2.1)] at next
          exact next π1 _ S
        refine pg_aload_n X d_K_passSecond_51 rfl ?_
        refine pg_getf X (f_K_37 hG) d_K_passSecond_52 (px_rd_of (by assumption)) rfl ?_
        refine pg_if_ne X d_K_passSecond_55 (fun c5 => ?_) (fun c5 => ?_)
        · rw [if_neg (fun q => c5 q.2.2)] at next
          exact next π1 _ S
        obtain ⟨-, -, d, hd1, hd2⟩ := F2.2.2 i (by omega)
        have Bd := B.2.2.2.2.2.2.2.1
        obtain ⟨c, hc1, hc2⟩ := B.2.2.2.2.2.2.2.2.2 (6 + d) (Or.inr (by omega))
        have hc3 := inC_144 Bw.2 Bh.2 hc2
        have hc4 := inC_lt hc2
        rw [if_pos ⟨c3, k2_le c4, c5⟩, hd1, nI_clamp (by omega), hc1, nI_clamp (by omega)] at next
        refine pg_aload_n X d_K_passSecond_58 rfl ?_
        refine pg_aload_n X d_K_passSecond_59 rfl ?_
        refine pc_V (ci := 2) (As := [_]) X Y d_K_passSecond_60 (c_K_103 hG) (i_K_comeIn hG) (v_K_comeIn hG) (fun r h => by rw [hG.2] at h; cases h; rfl) rfl rfl (Nat.le_of_ble_eq_true rfl) (by rw [hR]; exact ⟨by decide, by decide⟩) (by decide) (by decide) (by rw [hR]; first | decide | (dsimp only [px_rm]; omega)) (by rw [hR]; first | decide | (dsimp only [px_rm]; omega)) (px_rd_of (by assumption)) (t_K_comeIn A S (by omega) (by omega) hd1 (by omega) hc1 (by omega) (fun π2 S => ?_))
        exact next π2 _ S
      · rw [if_pos c2] at next
        refine pg_aload_n X d_K_passSecond_25 rfl ?_
        refine pg_aload_n X d_K_passSecond_26 rfl ?_
        refine pc_V (ci := 2) (As := [_]) X Y d_K_passSecond_27 (c_K_100 hG) (i_K_goOn hG) (v_K_goOn hG) (fun r h => by rw [hG.2] at h; cases h; rfl) rfl rfl (Nat.le_of_ble_eq_true rfl) (by rw [hR]; exact ⟨by decide, by decide⟩) (by decide) (by decide) (by rw [hR]; first | decide | (dsimp only [px_rm]; omega)) (by rw [hR]; first | decide | (dsimp only [px_rm]; omega)) (px_rd_of (by assumption)) (t_K_goOn A S B F2 (by omega) (fun π2 S => ?_))
        refine pg_goto X d_K_passSecond_30 ?_
        exact next π2 _ S
  refine pg_iconst X (0) d_K_passSecond_0 (by decide) ?_
  refine pg_istore1 X d_K_passSecond_1 ?_
  exact loop1 tl 0 (by omega) π none S
end PAS
