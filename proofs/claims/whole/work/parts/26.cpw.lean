/-! WALK: a copy of another walk -/
section CPW
variable {l : Launch} {G : px_Cg} {π π0 : px_H} {K : Option Value ⊕ String → px_H → Prop} {zh zw zt n nt nd wd ht tl : Nat} {h w wt : Nat → Nat → Int32}
theorem t_K_copyFrom (A : GA G) (S : SW zt zh n wt h π0 π) (Wo0 : RW zw zh n w π0) (hzz : zw + 22 ≤ zt) (hn : n < 2 ^ 31) (h0 : w 0 0 = nI tl) (htl : tl ≤ 16) (k : ∀ π1, SW zt zh n (cpW w wt tl) h π0 π1 → K (.inl none) π1) :
    px_P l G y_K_copyFrom b_K_copyFrom 3 none (px_rm 1 40) true [.ref zt, .ref zw] π K := by
  have hG := A.1
  have hZ := A.2.1
  refine px_P.intro (by decide) hZ (by simp [Value.category]) (Nat.le_of_ble_eq_true rfl) rfl ?_
  intro Γ hl hR X Y hnm hs hbel
  subst hl
  refine pg_w ?_
  unfold cpW at k
  have loop : ∀ f i, i + f = tl → ∀ π1, SW zt zh n (px_it (cpI w) i wt) h π0 π1 → px_G Γ G (px_Q Γ G true K) true 0 0 2 [some (.ref zt), some (.ref zw), some (.int (nI i))] [] π1 := by
    intro f
    induction f with
    | zero =>
      intro i hi π1 S
      have ei : i = tl := by omega
      subst ei
      generalize px_it (cpI w) i wt = w2 at S k
      have Wo := Wo0.off S.2.2.2 (Or.inl hzz)
      have hwo := RW.o Wo
      rw [h0] at hwo
      refine pg_iload_n X d_K_copyFrom_2 rfl ?_
      refine pg_aload_n X d_K_copyFrom_3 rfl ?_
      refine pg_getf X (f_K_24 hG) d_K_copyFrom_4 (px_rd_of (by assumption)) rfl ?_
      refine pg_icmp_ge X d_K_copyFrom_7 (fun c1 => ?_) (fun c1 => ?_)
      · clear hwo
        have Wo := Wo0.off S.2.2.2 (Or.inl hzz)
        have ho := S.1.o
        have hwo := RW.o Wo
        have ha := S.1.cr
        have hb := RW.cr Wo
        refine pg_aload_n X d_K_copyFrom_31 rfl ?_
        refine pg_getf X (f_K_51 hG) d_K_copyFrom_32 (px_rd_of (by assumption)) rfl ?_
        refine pg_iconst X (0) d_K_copyFrom_35 (by decide) ?_
        refine pg_aload_n X d_K_copyFrom_36 rfl ?_
        refine pg_getf X (f_K_51 hG) d_K_copyFrom_37 (px_rd_of (by assumption)) rfl ?_
        refine pg_iconst X (0) d_K_copyFrom_40 (by decide) ?_
        refine pg_aload_n X d_K_copyFrom_41 rfl ?_
        refine pg_getf X (f_K_51 hG) d_K_copyFrom_42 (px_rd_of (by assumption)) rfl ?_
        refine pg_alen X d_K_copyFrom_45 (px_rd_of (by assumption)) ?_
        refine pg_copy X (hG.t (lm_1 (List.mem_of_getElem? (i := 229) rfl))) (hG.t (lm_1 (List.mem_of_getElem? (i := 231) rfl))) (hG.t (lm_1 (List.mem_of_getElem? (i := 230) rfl))) (hG.t (lm_1 (List.mem_of_getElem? (i := 14) rfl))) d_K_copyFrom_46 (by rw [hR]; decide) (by rw [hR]; decide) (px_rd_of hb) ha (by omega) (by omega) (by omega) ?_
        refine pg_eqv (f' := w 1) px_wr_self (fun j hj => by simp [hj]) ?_
        rw [px_wr_wr]
        have S := S.row (Or.inl ⟨rfl, rfl, rfl⟩) (f := w 1)
        have Wo := Wo0.off S.2.2.2 (Or.inl hzz)
        have ho := S.1.o
        have hwo := RW.o Wo
        have ha := S.1.sd
        have hb := RW.sd Wo
        refine pg_aload_n X d_K_copyFrom_49 rfl ?_
        refine pg_getf X (f_K_54 hG) d_K_copyFrom_50 (px_rd_of (by assumption)) rfl ?_
        refine pg_iconst X (0) d_K_copyFrom_53 (by decide) ?_
        refine pg_aload_n X d_K_copyFrom_54 rfl ?_
        refine pg_getf X (f_K_54 hG) d_K_copyFrom_55 (px_rd_of (by assumption)) rfl ?_
        refine pg_iconst X (0) d_K_copyFrom_58 (by decide) ?_
        refine pg_aload_n X d_K_copyFrom_59 rfl ?_
        refine pg_getf X (f_K_54 hG) d_K_copyFrom_60 (px_rd_of (by assumption)) rfl ?_
        refine pg_alen X d_K_copyFrom_63 (px_rd_of (by assumption)) ?_
        refine pg_copy X (hG.t (lm_1 (List.mem_of_getElem? (i := 229) rfl))) (hG.t (lm_1 (List.mem_of_getElem? (i := 231) rfl))) (hG.t (lm_1 (List.mem_of_getElem? (i := 230) rfl))) (hG.t (lm_1 (List.mem_of_getElem? (i := 14) rfl))) d_K_copyFrom_64 (by rw [hR]; decide) (by rw [hR]; decide) (px_rd_of hb) ha (by omega) (by omega) (by omega) ?_
        refine pg_eqv (f' := w 2) px_wr_self (fun j hj => by simp [hj]) ?_
        rw [px_wr_wr]
        have S := S.row (Or.inr (Or.inl ⟨rfl, rfl, rfl⟩)) (f := w 2)
        have Wo := Wo0.off S.2.2.2 (Or.inl hzz)
        have ho := S.1.o
        have hwo := RW.o Wo
        have ha := S.1.ca
        have hb := RW.ca Wo
        refine pg_aload_n X d_K_copyFrom_67 rfl ?_
        refine pg_getf X (f_K_17 hG) d_K_copyFrom_68 (px_rd_of (by assumption)) rfl ?_
        refine pg_iconst X (0) d_K_copyFrom_71 (by decide) ?_
        refine pg_aload_n X d_K_copyFrom_72 rfl ?_
        refine pg_getf X (f_K_17 hG) d_K_copyFrom_73 (px_rd_of (by assumption)) rfl ?_
        refine pg_iconst X (0) d_K_copyFrom_76 (by decide) ?_
        refine pg_bipush X (10) d_K_copyFrom_77 (by decide) ?_
        have e10 : (10 : Int32) = nI 10 := rfl
        rw [e10]
        refine pg_copy X (hG.t (lm_1 (List.mem_of_getElem? (i := 229) rfl))) (hG.t (lm_1 (List.mem_of_getElem? (i := 231) rfl))) (hG.t (lm_1 (List.mem_of_getElem? (i := 230) rfl))) (hG.t (lm_1 (List.mem_of_getElem? (i := 14) rfl))) d_K_copyFrom_79 (by rw [hR]; decide) (by rw [hR]; decide) (px_rd_of hb) ha (by omega) (by omega) (by omega) ?_
        refine pg_eqv (f' := w 3) px_wr_self (fun j hj => by simp [hj]) ?_
        rw [px_wr_wr]
        have S := S.row (Or.inr (Or.inr (Or.inl ⟨rfl, rfl, rfl⟩))) (f := w 3)
        have Wo := Wo0.off S.2.2.2 (Or.inl hzz)
        have ho := S.1.o
        have hwo := RW.o Wo
        have ha := S.1.dn
        have hb := RW.dn Wo
        refine pg_aload_n X d_K_copyFrom_82 rfl ?_
        refine pg_getf X (f_K_21 hG) d_K_copyFrom_83 (px_rd_of (by assumption)) rfl ?_
        refine pg_iconst X (0) d_K_copyFrom_86 (by decide) ?_
        refine pg_aload_n X d_K_copyFrom_87 rfl ?_
        refine pg_getf X (f_K_21 hG) d_K_copyFrom_88 (px_rd_of (by assumption)) rfl ?_
        refine pg_iconst X (0) d_K_copyFrom_91 (by decide) ?_
        refine pg_bipush X (10) d_K_copyFrom_92 (by decide) ?_
        have e10 : (10 : Int32) = nI 10 := rfl
        rw [e10]
        refine pg_copy X (hG.t (lm_1 (List.mem_of_getElem? (i := 229) rfl))) (hG.t (lm_1 (List.mem_of_getElem? (i := 231) rfl))) (hG.t (lm_1 (List.mem_of_getElem? (i := 230) rfl))) (hG.t (lm_1 (List.mem_of_getElem? (i := 14) rfl))) d_K_copyFrom_94 (by rw [hR]; decide) (by rw [hR]; decide) (px_rd_of hb) ha (by omega) (by omega) (by omega) ?_
        refine pg_eqv (f' := w 4) px_wr_self (fun j hj => by simp [hj]) ?_
        rw [px_wr_wr]
        have S := S.row (Or.inr (Or.inr (Or.inr ⟨rfl, rfl, rfl⟩))) (f := w 4)
        have Wo := Wo0.off S.2.2.2 (Or.inl hzz)
        have hwo := RW.o Wo
        refine pg_aload_n X d_K_copyFrom_97 rfl ?_
        refine pg_aload_n X d_K_copyFrom_98 rfl ?_
        refine pg_getf X (f_K_24 hG) d_K_copyFrom_99 (px_rd_of (by assumption)) rfl ?_
        refine pw_s X hG S (j := 0) rfl (f_K_24 hG) (nf_K_told hG) rfl rfl d_K_copyFrom_102 (by decide) (fun π1 S => ?_)
        have Wo := Wo0.off S.2.2.2 (Or.inl hzz)
        have hwo := RW.o Wo
        refine pg_aload_n X d_K_copyFrom_105 rfl ?_
        refine pg_aload_n X d_K_copyFrom_106 rfl ?_
        refine pg_getf X (f_K_28 hG) d_K_copyFrom_107 (px_rd_of (by assumption)) rfl ?_
        refine pw_s X hG S (j := 1) rfl (f_K_28 hG) (nf_K_now hG) rfl rfl d_K_copyFrom_110 (by decide) (fun π1 S => ?_)
        have Wo := Wo0.off S.2.2.2 (Or.inl hzz)
        have hwo := RW.o Wo
        refine pg_aload_n X d_K_copyFrom_113 rfl ?_
        refine pg_aload_n X d_K_copyFrom_114 rfl ?_
        refine pg_getf X (f_K_31 hG) d_K_copyFrom_115 (px_rd_of (by assumption)) rfl ?_
        refine pw_s X hG S (j := 2) rfl (f_K_31 hG) (nf_K_inside hG) rfl rfl d_K_copyFrom_118 (by decide) (fun π1 S => ?_)
        have Wo := Wo0.off S.2.2.2 (Or.inl hzz)
        have hwo := RW.o Wo
        refine pg_aload_n X d_K_copyFrom_121 rfl ?_
        refine pg_aload_n X d_K_copyFrom_122 rfl ?_
        refine pg_getf X (f_K_34 hG) d_K_copyFrom_123 (px_rd_of (by assumption)) rfl ?_
        refine pw_s X hG S (j := 3) rfl (f_K_34 hG) (nf_K_gone hG) rfl rfl d_K_copyFrom_126 (by decide) (fun π1 S => ?_)
        refine pg_aload_n X d_K_copyFrom_129 rfl ?_
        refine pg_iconst X (0) d_K_copyFrom_130 (by decide) ?_
        refine pw_s X hG S (j := 4) rfl (f_K_37 hG) (nf_K_fleeing hG) rfl rfl d_K_copyFrom_131 (by decide) (fun π1 S => ?_)
        exact pg_vret X Y d_K_copyFrom_134 (by decide) (Nat.zero_le _) (Nat.zero_le _) (k _ S)
      · simp (disch := omega) only [Int32.lt_iff_toInt_lt, Int32.le_iff_toInt_le, nI_toInt, px_l0, px_l1, px_l2, px_l3, px_l4, px_l5, px_l6, px_l10, px_l11, px_l12, px_l16, px_l30, px_l100, px_l400] at c1
        omega
    | succ f ih =>
      intro i hi π1 S
      have Wo := Wo0.off S.2.2.2 (Or.inl hzz)
      have hwo := RW.o Wo
      rw [h0] at hwo
      have ho := S.1.o
      have hvs := S.1.vs
      have hvs2 := RW.vs Wo
      have hv := S.1.v (i := i) (by omega)
      have hv2 := RW.v Wo (i := i) (by omega)
      refine pg_iload_n X d_K_copyFrom_2 rfl ?_
      refine pg_aload_n X d_K_copyFrom_3 rfl ?_
      refine pg_getf X (f_K_24 hG) d_K_copyFrom_4 (px_rd_of (by assumption)) rfl ?_
      refine pg_icmp_ge X d_K_copyFrom_7 (fun c1 => ?_) (fun c1 => ?_)
      · simp (disch := omega) only [Int32.lt_iff_toInt_lt, Int32.le_iff_toInt_le, nI_toInt, px_l0, px_l1, px_l2, px_l3, px_l4, px_l5, px_l6, px_l10, px_l11, px_l12, px_l16, px_l30, px_l100, px_l400] at c1
        omega
      refine pg_aload_n X d_K_copyFrom_10 rfl ?_
      refine pg_getf X (f_K_11 hG) d_K_copyFrom_11 (px_rd_of (by assumption)) rfl ?_
      refine pg_iload_n X d_K_copyFrom_14 rfl ?_
      refine pg_aaldN X d_K_copyFrom_15 (px_rd_of (by assumption)) rfl (by first | assumption | omega) (by first | assumption | omega) (by rfl) ?_
      refine pg_aload_n X d_K_copyFrom_16 rfl ?_
      refine pg_getf X (f_K_11 hG) d_K_copyFrom_17 (px_rd_of (by assumption)) rfl ?_
      refine pg_iload_n X d_K_copyFrom_20 rfl ?_
      refine pg_aaldN X d_K_copyFrom_21 (px_rd_of (by assumption)) rfl (by first | assumption | omega) (by first | assumption | omega) (by rfl) ?_
      refine pc_V (ci := 1) (As := [_]) X Y d_K_copyFrom_22 (c_K_74 hG) (i_P_copyFrom hG) (v_P_copyFrom hG) (fun r h => by rw [hG.2] at h; cases h; rfl) rfl rfl (Nat.le_of_ble_eq_true rfl) (by rw [hR]; exact ⟨by decide, by decide⟩) (by decide) (by decide) (by rw [hR]; first | decide | (dsimp only [px_rm]; omega)) (by rw [hR]; first | decide | (dsimp only [px_rm]; omega)) (px_rd_of (by assumption)) (t_P_copyFrom A (by omega) hv hv2 ?_)
      have S := S.step (by omega) (by omega) (S.1.wvr (i := i) (by omega) (f := w (6 + i)))
      refine pg_iinc2 X d_K_copyFrom_25 ?_
      refine pg_goto X d_K_copyFrom_28 ?_
      rw [nI_i1]
      exact ih (i + 1) (by omega) _ S
  refine pg_iconst X (0) d_K_copyFrom_0 (by decide) ?_
  refine pg_istore2 X d_K_copyFrom_1 ?_
  exact loop tl 0 (by omega) π S
end CPW
