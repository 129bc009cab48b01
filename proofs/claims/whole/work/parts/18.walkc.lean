/-! WALK: the group, choosing -/
section WAC
variable {l : Launch} {G : px_Cg} {π : px_H} {K : Option Value ⊕ String → px_H → Prop} {zh zw n nt nd wd ht tl : Nat} {h w : Nat → Nat → Int32}
def badG (h w : Nat → Nat → Int32) (i t j : Nat) : Prop := w (6 + j) 2 = w (6 + i) 2 ∧ w (6 + j) 4 = 1 ∧ px_sb (w (6 + j) 8) (nI t) = 0 ∧ ¬ (w (6 + j) 6 = nI t ∧ w (6 + j) 5 = w (6 + i) 5 ∧ h 4 t ≤ w (6 + j) 7)
theorem t_K_groupIsDoneWith (A : GA G) (W : RW zw zh n w π) (H : RH zh n h π) (h0 : w 0 0 = nI tl) (ht : tl ≤ 16) {i t : Nat} (hi : i < 16) (hgo : w (6 + i) 6 = nI t) (htt : t < 6)
    (k1 : (w (6 + i) 2 = 0 ∨ ∀ j, j < tl → ¬ badG h w i t j) → K (.inl (some (.int 1))) π) (k0 : (¬ w (6 + i) 2 = 0 ∧ ∃ j, j < tl ∧ badG h w i t j) → K (.inl (some (.int 0))) π) :
    px_P l G y_K_groupIsDoneWith b_K_groupIsDoneWith 5 (some .boolean) (px_rm 1 21) false [.ref zw, .ref (zw + 6 + i)] π K := by
  have hG := A.1
  have hZ := A.2.1
  refine px_P.intro (by decide) hZ (by simp [Value.category]) (Nat.le_of_ble_eq_true rfl) rfl ?_
  intro Γ hl hR X Y hnm hs hbel
  subst hl
  have ho := W.o
  rw [h0] at ho
  have hvs := W.vs
  have hh := H.o
  have hsy := H.sy
  have hvi := W.v hi
  rw [hgo] at hvi
  refine pg_iconst X (0) d_K_groupIsDoneWith_0 (by decide) ?_
  refine pg_istore2 X d_K_groupIsDoneWith_1 ?_
  have loop : ∀ f j x y, j + f = tl → (∀ a, a < j → ¬ badG h w i t a) → px_G Γ G (px_Q Γ G false K) false 0 0 2 [some (.ref zw), some (.ref (zw + 6 + i)), some (.int (nI j)), x, y] [] π := by
    intro f
    induction f with
    | zero =>
      intro j x y hj hno
      refine pg_iload_n X d_K_groupIsDoneWith_2 rfl ?_
      refine pg_aload_n X d_K_groupIsDoneWith_3 rfl ?_
      refine pg_getf X (f_K_24 hG) d_K_groupIsDoneWith_4 (px_rd_of (by assumption)) rfl ?_
      refine pg_icmp_ge X d_K_groupIsDoneWith_7 (fun c1 => ?_) (fun c1 => ?_)
      · refine pg_iconst X (1) d_K_groupIsDoneWith_115 (by decide) ?_
        exact pg_iret X Y d_K_groupIsDoneWith_116 rfl (by decide) (Nat.zero_le _) (Nat.zero_le _) (k1 (Or.inr (fun a ha => hno a (by omega))))
      · simp (disch := omega) only [Int32.lt_iff_toInt_lt, Int32.le_iff_toInt_le, nI_toInt, px_l0, px_l1, px_l2, px_l3, px_l4, px_l5, px_l6, px_l10, px_l11, px_l12, px_l16, px_l30, px_l100, px_l400] at c1
        omega
    | succ f ih =>
      intro j x y hj hno
      have hv := W.v (i := j) (by omega)
      have go : ¬ badG h w i t j → ∀ x y, px_G Γ G (px_Q Γ G false K) false 0 0 109 [some (.ref zw), some (.ref (zw + 6 + i)), some (.int (nI j)), x, y] [] π := by
        intro hb x y
        refine pg_iinc2 X d_K_groupIsDoneWith_109 ?_
        refine pg_goto X d_K_groupIsDoneWith_112 ?_
        rw [nI_i1]
        exact ih (j + 1) x y (by omega) (fun a ha => by
          rcases Nat.lt_succ_iff_lt_or_eq.mp ha with q | q
          · exact hno a q
          · rw [q]; exact hb)
      refine pg_iload_n X d_K_groupIsDoneWith_2 rfl ?_
      refine pg_aload_n X d_K_groupIsDoneWith_3 rfl ?_
      refine pg_getf X (f_K_24 hG) d_K_groupIsDoneWith_4 (px_rd_of (by assumption)) rfl ?_
      refine pg_icmp_ge X d_K_groupIsDoneWith_7 (fun c1 => ?_) (fun c1 => ?_)
      · simp (disch := omega) only [Int32.lt_iff_toInt_lt, Int32.le_iff_toInt_le, nI_toInt, px_l0, px_l1, px_l2, px_l3, px_l4, px_l5, px_l6, px_l10, px_l11, px_l12, px_l16, px_l30, px_l100, px_l400] at c1
        omega
      refine pg_aload_n X d_K_groupIsDoneWith_10 rfl ?_
      refine pg_getf X (f_K_64 hG) d_K_groupIsDoneWith_11 (px_rd_of (by assumption)) rfl ?_
      refine pg_if_eq X d_K_groupIsDoneWith_14 (fun c2 => ?_) (fun c2 => ?_)
      · refine pg_iconst X (1) d_K_groupIsDoneWith_115 (by decide) ?_
        exact pg_iret X Y d_K_groupIsDoneWith_116 rfl (by decide) (Nat.zero_le _) (Nat.zero_le _) (k1 (Or.inl c2))
      refine pg_aload_n X d_K_groupIsDoneWith_17 rfl ?_
      refine pg_getf X (f_K_11 hG) d_K_groupIsDoneWith_18 (px_rd_of (by assumption)) rfl ?_
      refine pg_iload_n X d_K_groupIsDoneWith_21 rfl ?_
      refine pg_aaldN X d_K_groupIsDoneWith_22 (px_rd_of (by assumption)) rfl (by first | assumption | omega) (by first | assumption | omega) (by rfl) ?_
      refine pg_astore3 X d_K_groupIsDoneWith_23 ?_
      refine pg_aload_n X d_K_groupIsDoneWith_24 rfl ?_
      refine pg_getf X (f_K_64 hG) d_K_groupIsDoneWith_25 (px_rd_of (by assumption)) rfl ?_
      refine pg_aload_n X d_K_groupIsDoneWith_28 rfl ?_
      refine pg_getf X (f_K_64 hG) d_K_groupIsDoneWith_29 (px_rd_of (by assumption)) rfl ?_
      refine pg_icmp_ne X d_K_groupIsDoneWith_32 (fun c3 => ?_) (fun c3 => ?_)
      · exact go (fun q => c3 q.1) _ _
      refine pg_aload_n X d_K_groupIsDoneWith_35 rfl ?_
      refine pg_getf X (f_K_97 hG) d_K_groupIsDoneWith_36 (px_rd_of (by assumption)) rfl ?_
      refine pg_iconst X (1) d_K_groupIsDoneWith_39 (by decide) ?_
      refine pg_icmp_ne X d_K_groupIsDoneWith_40 (fun c4 => ?_) (fun c4 => ?_)
      · exact go (fun q => c4 q.2.1) _ _
      refine pg_aload_n X d_K_groupIsDoneWith_43 rfl ?_
      refine pg_aload_n X d_K_groupIsDoneWith_44 rfl ?_
      refine pg_getf X (f_K_119 hG) d_K_groupIsDoneWith_45 (px_rd_of (by assumption)) rfl ?_
      refine pc_V (ci := 1) (As := [_]) X Y d_K_groupIsDoneWith_48 (c_K_161 hG) (i_P_hasSeen hG) (v_P_hasSeen hG) (fun r h => by rw [hG.2] at h; cases h; rfl) rfl rfl (Nat.le_of_ble_eq_true rfl) (by rw [hR]; exact ⟨by decide, by decide⟩) (by decide) (by decide) (by rw [hR]; first | decide | (dsimp only [px_rm]; omega)) (by rw [hR]; first | decide | (dsimp only [px_rm]; omega)) (px_rd_of (by assumption)) (t_P_hasSeen A hv (fun c5 => ?_) (fun c5 => ?_))
      · refine pg_if_ne X d_K_groupIsDoneWith_51 (fun c6 => ?_) (fun c6 => ?_)
        · exact go (fun q => c5 q.2.2.1) _ _
        · exact absurd c6 (by decide)
      refine pg_if_ne X d_K_groupIsDoneWith_51 (fun c6 => ?_) (fun c6 => ?_)
      · exact absurd rfl c6
      have bad : ¬ (w (6 + j) 6 = nI t ∧ w (6 + j) 5 = w (6 + i) 5 ∧ h 4 t ≤ w (6 + j) 7) → ∀ y, px_G Γ G (px_Q Γ G false K) false 0 0 107 [some (.ref zw), some (.ref (zw + 6 + i)), some (.int (nI j)), some (.ref (zw + 6 + j)), y] [] π := by
        intro q y
        refine pg_iconst X (0) d_K_groupIsDoneWith_107 (by decide) ?_
        exact pg_iret X Y d_K_groupIsDoneWith_108 rfl (by decide) (Nat.zero_le _) (Nat.zero_le _) (k0 ⟨c2, j, by omega, c3, c4, c5, q⟩)
      have no : ¬ (w (6 + j) 6 = nI t ∧ w (6 + j) 5 = w (6 + i) 5) → px_G Γ G (px_Q Γ G false K) false 0 0 80 [some (.ref zw), some (.ref (zw + 6 + i)), some (.int (nI j)), some (.ref (zw + 6 + j)), y] [] π := by
        intro q
        refine pg_iconst X (0) d_K_groupIsDoneWith_80 (by decide) ?_
        refine pg_istore4 X d_K_groupIsDoneWith_81 ?_
        refine pg_iload X d_K_groupIsDoneWith_83 rfl ?_
        refine pg_if_eq X d_K_groupIsDoneWith_85 (fun c7 => ?_) (fun c7 => ?_)
        · exact bad (fun z => q ⟨z.1, z.2.1⟩) _
        · exact absurd rfl c7
      refine pg_aload_n X d_K_groupIsDoneWith_54 rfl ?_
      refine pg_getf X (f_K_119 hG) d_K_groupIsDoneWith_55 (px_rd_of (by assumption)) rfl ?_
      refine pg_aload_n X d_K_groupIsDoneWith_58 rfl ?_
      refine pg_getf X (f_K_119 hG) d_K_groupIsDoneWith_59 (px_rd_of (by assumption)) rfl ?_
      refine pg_icmp_ne X d_K_groupIsDoneWith_62 (fun c7 => ?_) (fun c7 => ?_)
      · exact no (fun z => c7 z.1)
      refine pg_aload_n X d_K_groupIsDoneWith_65 rfl ?_
      refine pg_getf X (f_K_106 hG) d_K_groupIsDoneWith_66 (px_rd_of (by assumption)) rfl ?_
      refine pg_aload_n X d_K_groupIsDoneWith_69 rfl ?_
      refine pg_getf X (f_K_106 hG) d_K_groupIsDoneWith_70 (px_rd_of (by assumption)) rfl ?_
      refine pg_icmp_ne X d_K_groupIsDoneWith_73 (fun c8 => ?_) (fun c8 => ?_)
      · exact no (fun z => c8 z.2)
      refine pg_iconst X (1) d_K_groupIsDoneWith_76 (by decide) ?_
      refine pg_goto X d_K_groupIsDoneWith_77 ?_
      refine pg_istore4 X d_K_groupIsDoneWith_81 ?_
      refine pg_iload X d_K_groupIsDoneWith_83 rfl ?_
      refine pg_if_eq X d_K_groupIsDoneWith_85 (fun c9 => ?_) (fun c9 => ?_)
      · exact absurd c9 (by decide)
      refine pg_aload_n X d_K_groupIsDoneWith_88 rfl ?_
      refine pg_getf X (f_K_145 hG) d_K_groupIsDoneWith_89 (px_rd_of (by assumption)) rfl ?_
      refine pg_aload_n X d_K_groupIsDoneWith_92 rfl ?_
      refine pg_getf X (f_K_41 hG) d_K_groupIsDoneWith_93 (px_rd_of (by assumption)) rfl ?_
      refine pg_getf X (f_K_148 hG) d_K_groupIsDoneWith_96 (px_rd_of (by assumption)) rfl ?_
      refine pg_aload_n X d_K_groupIsDoneWith_99 rfl ?_
      refine pg_getf X (f_K_119 hG) d_K_groupIsDoneWith_100 (px_rd_of (by assumption)) rfl ?_
      refine pg_ialdN X d_K_groupIsDoneWith_103 (px_rd_of (by assumption)) (by first | assumption | omega) (by first | assumption | omega) ?_
      refine pg_icmp_ge X d_K_groupIsDoneWith_104 (fun c10 => ?_) (fun c10 => ?_)
      · exact go (fun q => q.2.2.2 ⟨c7, c8, c10⟩) _ _
      · exact bad (fun z => c10 z.2.2) _
  exact loop tl 0 none none (by omega) (fun a ha => absurd ha (Nat.not_lt_zero a))
def ctS (h w : Nat → Nat → Int32) (i c : Nat) : Nat → Int32 × Int32
  | 0 => (0, 0)
  | t + 1 => if px_sb (w (6 + i) 8) (nI t) = 0 ∧ ¬ h (6 + t) c = -1 then ((ctS h w i c t).1 ||| ((1 : Int32) <<< (nI t &&& 31)), (ctS h w i c t).2 + h 3 t) else ctS h w i c t
def ctR (h : Nat → Nat → Int32) (op : Int32) : Nat → Nat → Int32 → Int32
  | 0, _, _ => -1
  | f + 1, t, r => if px_sb op (nI t) = 0 then ctR h op f (t + 1) r else if r - h 3 t < 0 then nI t else ctR h op f (t + 1) (r - h 3 t)
def chT (h w : Nat → Nat → Int32) (i c nt : Nat) : Int32 := if 0 < (ctS h w i c nt).2 then ctR h (ctS h w i c nt).1 nt 0 (irm (luckV h w i) (ctS h w i c nt).2) else -1
theorem t_K_chooseThing (A : GA G) (W : RW zw zh n w π) (H : RH zh n h π) (hn : n < 2 ^ 31) (h3 : h 0 3 = nI nt) (hnt : nt ≤ 6) {i c : Nat} (hi : i < 16) (hce : w (6 + i) 5 = nI c) (hc : c < n) (k : K (.inl (some (.int (chT h w i c nt)))) π) :
    px_P l G y_K_chooseThing b_K_chooseThing 6 (some .int) (px_rm 1 23) false [.ref zw, .ref (zw + 6 + i)] π K := by
  have hG := A.1
  have hZ := A.2.1
  refine px_P.intro (by decide) hZ (by simp [Value.category]) (Nat.le_of_ble_eq_true rfl) rfl ?_
  intro Γ hl hR X Y hnm hs hbel
  subst hl
  have ho := W.o
  have hh := H.o
  rw [h3] at hh
  have hit := H.it
  have hv := W.v hi
  have hv2 := hv
  rw [hce] at hv2
  unfold chT at k
  refine pg_iconst X (0) d_K_chooseThing_0 (by decide) ?_
  refine pg_istore2 X d_K_chooseThing_1 ?_
  refine pg_iconst X (0) d_K_chooseThing_2 (by decide) ?_
  refine pg_istore3 X d_K_chooseThing_3 ?_
  refine pg_iconst X (0) d_K_chooseThing_4 (by decide) ?_
  refine pg_istore4 X d_K_chooseThing_5 ?_
  have loop : ∀ f t x, t + f = nt → (∀ x, px_G Γ G (px_Q Γ G false K) false 0 0 71 [some (.ref zw), some (.ref (zw + 6 + i)), some (.int (ctS h w i c nt).1), some (.int (ctS h w i c nt).2), some (.int (nI nt)), x] [] π) → px_G Γ G (px_Q Γ G false K) false 0 0 7 [some (.ref zw), some (.ref (zw + 6 + i)), some (.int (ctS h w i c t).1), some (.int (ctS h w i c t).2), some (.int (nI t)), x] [] π := by
    intro f
    induction f with
    | zero =>
      intro t x ht kk
      have e1 : t = nt := by omega
      subst e1
      refine pg_iload X d_K_chooseThing_7 rfl ?_
      refine pg_aload_n X d_K_chooseThing_9 rfl ?_
      refine pg_getf X (f_K_41 hG) d_K_chooseThing_10 (px_rd_of (by assumption)) rfl ?_
      refine pg_getf X (f_K_173 hG) d_K_chooseThing_13 (px_rd_of (by assumption)) rfl ?_
      refine pg_icmp_ge X d_K_chooseThing_16 (fun c1 => ?_) (fun c1 => ?_)
      · exact kk x
      · simp (disch := omega) only [Int32.lt_iff_toInt_lt, Int32.le_iff_toInt_le, nI_toInt, px_l0, px_l1, px_l2, px_l3, px_l4, px_l5, px_l6, px_l10, px_l11, px_l12, px_l16, px_l30, px_l100, px_l400] at c1
        omega
    | succ f ih =>
      intro t x ht kk
      have h7 := ih (t + 1) x (by omega) kk
      have skip : ¬ (px_sb (w (6 + i) 8) (nI t) = 0 ∧ ¬ h (6 + t) c = -1) → px_G Γ G (px_Q Γ G false K) false 0 0 65 [some (.ref zw), some (.ref (zw + 6 + i)), some (.int (ctS h w i c t).1), some (.int (ctS h w i c t).2), some (.int (nI t)), x] [] π := by
        intro q
        refine pg_iinc4 X d_K_chooseThing_65 ?_
        refine pg_goto X d_K_chooseThing_68 ?_
        rw [nI_i1]
        rw [ctS, if_neg q] at h7
        exact h7
      refine pg_iload X d_K_chooseThing_7 rfl ?_
      refine pg_aload_n X d_K_chooseThing_9 rfl ?_
      refine pg_getf X (f_K_41 hG) d_K_chooseThing_10 (px_rd_of (by assumption)) rfl ?_
      refine pg_getf X (f_K_173 hG) d_K_chooseThing_13 (px_rd_of (by assumption)) rfl ?_
      refine pg_icmp_ge X d_K_chooseThing_16 (fun c1 => ?_) (fun c1 => ?_)
      · simp (disch := omega) only [Int32.lt_iff_toInt_lt, Int32.le_iff_toInt_le, nI_toInt, px_l0, px_l1, px_l2, px_l3, px_l4, px_l5, px_l6, px_l10, px_l11, px_l12, px_l16, px_l30, px_l100, px_l400] at c1
        omega
      refine pg_aload_n X d_K_chooseThing_19 rfl ?_
      refine pg_iload X d_K_chooseThing_20 rfl ?_
      refine pc_V (ci := 1) (As := [_]) X Y d_K_chooseThing_22 (c_K_161 hG) (i_P_hasSeen hG) (v_P_hasSeen hG) (fun r h => by rw [hG.2] at h; cases h; rfl) rfl rfl (Nat.le_of_ble_eq_true rfl) (by rw [hR]; exact ⟨by decide, by decide⟩) (by decide) (by decide) (by rw [hR]; first | decide | (dsimp only [px_rm]; omega)) (by rw [hR]; first | decide | (dsimp only [px_rm]; omega)) (px_rd_of (by assumption)) (t_P_hasSeen A hv (fun c5 => ?_) (fun c5 => ?_))
      · refine pg_if_ne X d_K_chooseThing_25 (fun c6 => ?_) (fun c6 => ?_)
        · exact skip (fun q => c5 q.1)
        · exact absurd c6 (by decide)
      refine pg_if_ne X d_K_chooseThing_25 (fun c6 => ?_) (fun c6 => ?_)
      · exact absurd rfl c6
      refine pg_aload_n X d_K_chooseThing_28 rfl ?_
      refine pg_getf X (f_K_41 hG) d_K_chooseThing_29 (px_rd_of (by assumption)) rfl ?_
      refine pg_iload X d_K_chooseThing_32 rfl ?_
      refine pg_aload_n X d_K_chooseThing_34 rfl ?_
      refine pg_getf X (f_K_106 hG) d_K_chooseThing_35 (px_rd_of hv2) rfl ?_
      refine pc_V (ci := 0) (As := [_, _]) X Y d_K_chooseThing_38 (c_K_122 hG) (i_H_distanceTo hG) (v_H_distanceTo hG) (fun r h => by rw [hG.2] at h; cases h; rfl) rfl rfl (Nat.le_of_ble_eq_true rfl) (by rw [hR]; exact ⟨by decide, by decide⟩) (by decide) (by decide) (by rw [hR]; first | decide | (dsimp only [px_rm]; omega)) (by rw [hR]; first | decide | (dsimp only [px_rm]; omega)) (px_rd_of (by assumption)) (t_H_distanceTo A H hn (g := t) (by omega) hc ?_)
      refine pg_iconst X (-1) d_K_chooseThing_41 (by decide) ?_
      refine pg_icmp_eq X d_K_chooseThing_42 (fun c7 => ?_) (fun c7 => ?_)
      · exact skip (fun q => q.2 c7)
      refine pg_iload_n X d_K_chooseThing_45 rfl ?_
      refine pg_iconst X (1) d_K_chooseThing_46 (by decide) ?_
      refine pg_iload X d_K_chooseThing_47 rfl ?_
      refine pg_ishl X d_K_chooseThing_49 ?_
      refine pg_ior X d_K_chooseThing_50 ?_
      refine pg_istore2 X d_K_chooseThing_51 ?_
      refine pg_iload_n X d_K_chooseThing_52 rfl ?_
      refine pg_aload_n X d_K_chooseThing_53 rfl ?_
      refine pg_getf X (f_K_41 hG) d_K_chooseThing_54 (px_rd_of (by assumption)) rfl ?_
      refine pg_getf X (f_K_176 hG) d_K_chooseThing_57 (px_rd_of (by assumption)) rfl ?_
      refine pg_iload X d_K_chooseThing_60 rfl ?_
      refine pg_ialdN X d_K_chooseThing_62 (px_rd_of (by assumption)) (by first | assumption | omega) (by first | assumption | omega) ?_
      refine pg_iadd X d_K_chooseThing_63 ?_
      refine pg_istore3 X d_K_chooseThing_64 ?_
      refine pg_iinc4 X d_K_chooseThing_65 ?_
      refine pg_goto X d_K_chooseThing_68 ?_
      rw [nI_i1]
      rw [ctS, if_pos ⟨c5, c7⟩] at h7
      exact h7
  refine loop nt 0 none (by omega) ?_
  intro x
  clear loop
  refine pg_iload_n X d_K_chooseThing_71 rfl ?_
  generalize hS : ctS h w i c nt = S at k ⊢
  obtain ⟨op, sm⟩ := S
  dsimp only at k ⊢
  refine pg_if_gt X d_K_chooseThing_72 (fun c1 => ?_) (fun c1 => ?_)
  · rw [if_pos c1] at k
    refine pg_aload_n X d_K_chooseThing_77 rfl ?_
    refine pg_aload_n X d_K_chooseThing_78 rfl ?_
    refine pc_V (ci := 2) (As := [_]) X Y d_K_chooseThing_79 (c_K_179 hG) (i_K_luck hG) (v_K_luck hG) (fun r h => by rw [hG.2] at h; cases h; rfl) rfl rfl (Nat.le_of_ble_eq_true rfl) (by rw [hR]; exact ⟨by decide, by decide⟩) (by decide) (by decide) (by rw [hR]; first | decide | (dsimp only [px_rm]; omega)) (by rw [hR]; first | decide | (dsimp only [px_rm]; omega)) (px_rd_of (by assumption)) (t_K_luck A W H hi ?_)
    refine pg_iload_n X d_K_chooseThing_82 rfl ?_
    refine pg_irem X d_K_chooseThing_83 (fun q => by rw [q] at c1; exact absurd c1 (by decide)) ?_
    refine pg_istore4 X d_K_chooseThing_84 ?_
    refine pg_iconst X (0) d_K_chooseThing_86 (by decide) ?_
    refine pg_istore5 X d_K_chooseThing_87 ?_
    have loop : ∀ f t r, t + f = nt → K (.inl (some (.int (ctR h op f t r)))) π → px_G Γ G (px_Q Γ G false K) false 0 0 89 [some (.ref zw), some (.ref (zw + 6 + i)), some (.int op), some (.int sm), some (.int r), some (.int (nI t))] [] π := by
      intro f
      induction f with
      | zero =>
        intro t r ht k
        refine pg_iload X d_K_chooseThing_89 rfl ?_
        refine pg_aload_n X d_K_chooseThing_91 rfl ?_
        refine pg_getf X (f_K_41 hG) d_K_chooseThing_92 (px_rd_of (by assumption)) rfl ?_
        refine pg_getf X (f_K_173 hG) d_K_chooseThing_95 (px_rd_of (by assumption)) rfl ?_
        refine pg_icmp_ge X d_K_chooseThing_98 (fun c2 => ?_) (fun c2 => ?_)
        · refine pg_iconst X (-1) d_K_chooseThing_139 (by decide) ?_
          exact pg_iret X Y d_K_chooseThing_140 rfl (by decide) (Nat.zero_le _) (Nat.zero_le _) (k)
        · simp (disch := omega) only [Int32.lt_iff_toInt_lt, Int32.le_iff_toInt_le, nI_toInt, px_l0, px_l1, px_l2, px_l3, px_l4, px_l5, px_l6, px_l10, px_l11, px_l12, px_l16, px_l30, px_l100, px_l400] at c2
          omega
      | succ f ih =>
        intro t r ht k
        refine pg_iload X d_K_chooseThing_89 rfl ?_
        refine pg_aload_n X d_K_chooseThing_91 rfl ?_
        refine pg_getf X (f_K_41 hG) d_K_chooseThing_92 (px_rd_of (by assumption)) rfl ?_
        refine pg_getf X (f_K_173 hG) d_K_chooseThing_95 (px_rd_of (by assumption)) rfl ?_
        refine pg_icmp_ge X d_K_chooseThing_98 (fun c2 => ?_) (fun c2 => ?_)
        · simp (disch := omega) only [Int32.lt_iff_toInt_lt, Int32.le_iff_toInt_le, nI_toInt, px_l0, px_l1, px_l2, px_l3, px_l4, px_l5, px_l6, px_l10, px_l11, px_l12, px_l16, px_l30, px_l100, px_l400] at c2
          omega
        refine pg_iload_n X d_K_chooseThing_101 rfl ?_
        refine pg_iload X d_K_chooseThing_102 rfl ?_
        refine pg_ishr X d_K_chooseThing_104 ?_
        refine pg_iconst X (1) d_K_chooseThing_105 (by decide) ?_
        refine pg_iand X d_K_chooseThing_106 ?_
        refine pg_if_eq X d_K_chooseThing_107 (fun c3 => ?_) (fun c3 => ?_)
        · refine pg_iinc5 X d_K_chooseThing_133 ?_
          refine pg_goto X d_K_chooseThing_136 ?_
          rw [nI_i1]
          rw [ctR, if_pos (show px_sb op (nI t) = 0 from c3)] at k
          exact ih (t + 1) r (by omega) k
        rw [ctR, if_neg (show ¬ px_sb op (nI t) = 0 from c3)] at k
        refine pg_iload X d_K_chooseThing_110 rfl ?_
        refine pg_aload_n X d_K_chooseThing_112 rfl ?_
        refine pg_getf X (f_K_41 hG) d_K_chooseThing_113 (px_rd_of (by assumption)) rfl ?_
        refine pg_getf X (f_K_176 hG) d_K_chooseThing_116 (px_rd_of (by assumption)) rfl ?_
        refine pg_iload X d_K_chooseThing_119 rfl ?_
        refine pg_ialdN X d_K_chooseThing_121 (px_rd_of (by assumption)) (by first | assumption | omega) (by first | assumption | omega) ?_
        refine pg_isub X d_K_chooseThing_122 ?_
        refine pg_istore4 X d_K_chooseThing_123 ?_
        refine pg_iload X d_K_chooseThing_125 rfl ?_
        refine pg_if_ge X d_K_chooseThing_127 (fun c4 => ?_) (fun c4 => ?_)
        · refine pg_iinc5 X d_K_chooseThing_133 ?_
          refine pg_goto X d_K_chooseThing_136 ?_
          rw [nI_i1]
          rw [if_neg (k2_nlt c4)] at k
          exact ih (t + 1) _ (by omega) k
        · refine pg_iload X d_K_chooseThing_130 rfl ?_
          rw [if_pos (k2_lt c4)] at k
          exact pg_iret X Y d_K_chooseThing_132 rfl (by decide) (Nat.zero_le _) (Nat.zero_le _) (k)
    exact loop nt 0 _ (by omega) k
  · rw [if_neg c1] at k
    refine pg_iconst X (-1) d_K_chooseThing_75 (by decide) ?_
    exact pg_iret X Y d_K_chooseThing_76 rfl (by decide) (Nat.zero_le _) (Nat.zero_le _) (k)
def chV (h w : Nat → Nat → Int32) (i c nt nd : Nat) : Int32 := if (w 0 4 = 0 ∧ w (6 + i) 9 < h 0 6) ∧ ¬ chT h w i c nt = -1 then chT h w i c nt else (ndS h c nd).1
theorem t_K_choose (A : GA G) (W : RW zw zh n w π) (H : RH zh n h π) (hn : n < 2 ^ 31) (h3 : h 0 3 = nI nt) (hnt : nt ≤ 6) (h4 : h 0 4 = nI nd) (hnd : nd ≤ 4) {i c : Nat} (hi : i < 16) (hce : w (6 + i) 5 = nI c) (hc : c < n) (k : K (.inl (some (.int (chV h w i c nt nd)))) π) :
    px_P l G y_K_choose b_K_choose 3 (some .int) (px_rm 2 48) false [.ref zw, .ref (zw + 6 + i)] π K := by
  have hG := A.1
  have hZ := A.2.1
  refine px_P.intro (by decide) hZ (by simp [Value.category]) (Nat.le_of_ble_eq_true rfl) rfl ?_
  intro Γ hl hR X Y hnm hs hbel
  subst hl
  have ho := W.o
  have hh := H.o
  have hv := W.v hi
  unfold chV at k
  have last : ∀ x, ¬ ((w 0 4 = 0 ∧ w (6 + i) 9 < h 0 6) ∧ ¬ chT h w i c nt = -1) → px_G Γ G (px_Q Γ G false K) false 0 0 34 [some (.ref zw), some (.ref (zw + 6 + i)), x] [] π := by
    intro x q
    rw [if_neg q] at k
    rw [hce] at hv
    refine pg_aload_n X d_K_choose_34 rfl ?_
    refine pg_getf X (f_K_41 hG) d_K_choose_35 (px_rd_of (by assumption)) rfl ?_
    refine pg_aload_n X d_K_choose_38 rfl ?_
    refine pg_getf X (f_K_106 hG) d_K_choose_39 (px_rd_of (by assumption)) rfl ?_
    refine pc_V (ci := 0) (As := [_]) X Y d_K_choose_42 (c_K_170 hG) (i_H_nearestDoor hG) (v_H_nearestDoor hG) (fun r h => by rw [hG.2] at h; cases h; rfl) rfl rfl (Nat.le_of_ble_eq_true rfl) (by rw [hR]; exact ⟨by decide, by decide⟩) (by decide) (by decide) (by rw [hR]; first | decide | (dsimp only [px_rm]; omega)) (by rw [hR]; first | decide | (dsimp only [px_rm]; omega)) (px_rd_of (by assumption)) (t_H_nearestDoor A H hn h4 hnd hc ?_)
    exact pg_iret X Y d_K_choose_45 rfl (by decide) (Nat.zero_le _) (Nat.zero_le _) (k)
  refine pg_aload_n X d_K_choose_0 rfl ?_
  refine pg_getf X (f_K_37 hG) d_K_choose_1 (px_rd_of (by assumption)) rfl ?_
  refine pg_if_ne X d_K_choose_4 (fun c1 => ?_) (fun c1 => ?_)
  · exact last none (fun q => c1 q.1.1)
  refine pg_aload_n X d_K_choose_7 rfl ?_
  refine pg_getf X (f_K_158 hG) d_K_choose_8 (px_rd_of (by assumption)) rfl ?_
  refine pg_aload_n X d_K_choose_11 rfl ?_
  refine pg_getf X (f_K_41 hG) d_K_choose_12 (px_rd_of (by assumption)) rfl ?_
  refine pg_getf X (f_K_164 hG) d_K_choose_15 (px_rd_of (by assumption)) rfl ?_
  refine pg_icmp_ge X d_K_choose_18 (fun c2 => ?_) (fun c2 => ?_)
  · exact last none (fun q => k2_nlt c2 q.1.2)
  refine pg_aload_n X d_K_choose_21 rfl ?_
  refine pg_aload_n X d_K_choose_22 rfl ?_
  refine pc_V (ci := 2) (As := [_]) X Y d_K_choose_23 (c_K_167 hG) (i_K_chooseThing hG) (v_K_chooseThing hG) (fun r h => by rw [hG.2] at h; cases h; rfl) rfl rfl (Nat.le_of_ble_eq_true rfl) (by rw [hR]; exact ⟨by decide, by decide⟩) (by decide) (by decide) (by rw [hR]; first | decide | (dsimp only [px_rm]; omega)) (by rw [hR]; first | decide | (dsimp only [px_rm]; omega)) (px_rd_of (by assumption)) (t_K_chooseThing A W H hn h3 hnt hi hce hc ?_)
  refine pg_istore2 X d_K_choose_26 ?_
  refine pg_iload_n X d_K_choose_27 rfl ?_
  refine pg_iconst X (-1) d_K_choose_28 (by decide) ?_
  refine pg_icmp_eq X d_K_choose_29 (fun c3 => ?_) (fun c3 => ?_)
  · exact last _ (fun q => q.2 c3)
  · rw [if_pos ⟨⟨c1, k2_lt c2⟩, c3⟩] at k
    refine pg_iload_n X d_K_choose_32 rfl ?_
    exact pg_iret X Y d_K_choose_33 rfl (by decide) (Nat.zero_le _) (Nat.zero_le _) (k)
end WAC
