/-! HOUSE: measure, build, addThing, addDoor -/
section MEA
variable {l : Launch} {G : px_Cg} {π π0 : px_H} {K : Option Value ⊕ String → px_H → Prop} {zh n nt nd wd ht : Nat} {h : Nat → Nat → Int32}
def SH (zh n : Nat) (h : Nat → Nat → Int32) (π0 π : px_H) : Prop := RH zh n h π ∧ px_off zh 17 π0 π
theorem SH.step {h' : Nat → Nat → Int32} (S : SH zh n h π0 π) {a : Nat} {e : px_E} (h1 : zh ≤ a) (h2 : a < zh + 17) (H : RH zh n h' (px_wr π a e)) : SH zh n h' π0 (px_wr π a e) := ⟨H, S.2.tr (px_off.wr h1 h2)⟩
/-- h with the queue Q and the distances D of goal g -/
def hm (h : Nat → Nat → Int32) (g : Nat) (D Q : Nat → Int32) : Nat → Nat → Int32 := upr (upr h (6 + g) D) 5 Q
theorem RH.q (H : RH zh n h π) {f : Nat → Int32} : RH zh n (upr h 5 f) (px_wr π (zh + 16) (.inl (.int, n, .inl f))) := by
  refine px_blk.wr H (by omega) ?_ ?_
  · simp only [hc, upr_s]
  · intro i hi hne
    exact hc_row hi (fun q => upr_n (by omega)) (fun q => upr_n (by omega)) (fun q => upr_n (by omega)) (fun q => upr_n (by omega)) (fun q => upr_n (by omega)) (fun q => absurd q hne) (fun q _ => upr_n (by omega))
theorem upr_upr {r : Nat} {f f' : Nat → Int32} : upr (upr h r f) r f' = upr h r f' := by
  funext r'
  by_cases q : r' = r
  · rw [q, upr_s, upr_s]
  · rw [upr_n q, upr_n q, upr_n q]
theorem upr_comm {r r' : Nat} (hr : r ≠ r') {f f' : Nat → Int32} : upr (upr h r f) r' f' = upr (upr h r' f') r f := by
  funext x
  by_cases q : x = r'
  · subst q
    rw [upr_s, upr_n (Ne.symm hr), upr_s]
  · rw [upr_n q]
    by_cases q2 : x = r
    · rw [q2, upr_s, upr_s]
    · rw [upr_n q2, upr_n q2, upr_n q]
variable {g : Nat} {D Q : Nat → Int32}
theorem SH.d (S : SH zh n (hm h g D Q) π0 π) (hg : g < 10) {D' : Nat → Int32} : SH zh n (hm h g D' Q) π0 (px_wr π (zh + 6 + g) (.inl (.int, n, .inl D'))) := by
  have H := S.1.wr hg (f := D')
  unfold hm at H ⊢
  rw [upr_comm (by omega), upr_upr] at H
  exact S.step (by omega) (by omega) H
theorem SH.qq (S : SH zh n (hm h g D Q) π0 π) {Q' : Nat → Int32} : SH zh n (hm h g D Q') π0 (px_wr π (zh + 16) (.inl (.int, n, .inl Q'))) := by
  have H := S.1.q (f := Q')
  unfold hm at H ⊢
  rw [upr_upr] at H
  exact S.step (by omega) (by omega) H
theorem hm_5 : hm h g D Q 5 = Q := upr_s
theorem hm_g : hm h g D Q (6 + g) = D := by unfold hm; rw [upr_n (by omega), upr_s]
theorem hm_r {r : Nat} (h5 : r ≠ 5) (h6 : r ≠ 6 + g) : hm h g D Q r = h r := by unfold hm; rw [upr_n h5, upr_n h6]
theorem hm_0 : hm h g D Q 0 = h 0 := hm_r (by decide) (by omega)
theorem t_H_measure (A : GA G) (H : RH zh n h π) (hn : n = 12 * ht) (h0 : h 0 0 = nI wd) (h1 : h 0 1 = nI ht) (hwd : wd ≤ 12) (hht : ht ≤ 12) (hg : g < 10) {c0 : Nat} (hc0 : h 2 g = nI c0) (hc0i : inC wd ht c0)
    (k : ∀ D Q π1, isD wd ht (h 1) c0 D → RH zh n (hm h g D Q) π1 → px_off zh 17 π π1 → K (.inl none) π1) :
    px_P l G y_H_measure b_H_measure 8 none (px_rm 1 24) true [.ref zh, .int (nI g)] π K := by
  have hG := A.1
  have hZ := A.2.1
  refine px_P.intro (by decide) hZ (by simp [Value.category]) (Nat.le_of_ble_eq_true rfl) rfl ?_
  intro Γ hl hR X Y hnm hs hbel
  subst hl
  refine pg_w ?_
  have ho := H.o
  have hds := H.ds
  have hgc := H.gc
  have hc144 := inC_144 hwd hht hc0i
  have hclt := inC_lt hc0i
  refine pg_aload_n X d_H_measure_0 rfl ?_
  refine pg_getf X (f_H_49 hG) d_H_measure_1 (px_rd_of (by assumption)) rfl ?_
  refine pg_iload_n X d_H_measure_4 rfl ?_
  refine pg_aaldN X d_H_measure_5 (px_rd_of (by assumption)) rfl (by first | assumption | omega) (by first | assumption | omega) (by rfl) ?_
  refine pg_astore2 X d_H_measure_6 ?_
  refine pg_aload_n X d_H_measure_7 rfl ?_
  refine pg_iconst X (-1) d_H_measure_8 (by decide) ?_
  refine pc_S (As := [_, _]) X Y d_H_measure_9 (c_H_55 hG) (s_A_fill hG) rfl rfl (Nat.le_of_ble_eq_true rfl) (by rw [hR]; exact ⟨by decide, by decide⟩) (by decide) (by decide) (by rw [hR]; first | decide | (dsimp only [px_rm]; omega)) (by rw [hR]; first | decide | (dsimp only [px_rm]; omega)) (t_A_fill A (by omega) (H.row hg) ?_)
  have S : SH zh n (hm h g (fun _ => -1) (h 5)) π (px_wr π (zh + 6 + g) (.inl (.int, n, .inl (fun _ => -1)))) := by
    have e : hm h g (fun _ => -1) (h 5) = upr h (6 + g) (fun _ => -1) := by
      unfold hm
      funext r
      by_cases q : r = 5
      · rw [q, upr_s, upr_n (by omega)]
      · rw [upr_n q]
    rw [e]
    exact ⟨H.wr hg, px_off.wr (by omega) (by omega)⟩
  generalize px_wr π (zh + 6 + g) (.inl (.int, n, .inl (fun _ => -1))) = π1 at S ⊢
  have hgc := S.1.gc
  rw [hm_r (by decide) (by omega)] at hgc
  have ho := S.1.o
  have hrow := S.1.row hg
  rw [hm_g] at hrow
  refine pg_aload_n X d_H_measure_12 rfl ?_
  refine pg_aload_n X d_H_measure_13 rfl ?_
  refine pg_getf X (f_H_9 hG) d_H_measure_14 (px_rd_of (by assumption)) rfl ?_
  refine pg_iload_n X d_H_measure_17 rfl ?_
  refine pg_ialdN X d_H_measure_18 (px_rd_of (by assumption)) (by first | assumption | omega) (by first | assumption | omega) ?_
  rw [hc0]
  refine pg_iconst X (0) d_H_measure_19 (by decide) ?_
  refine pg_iastN X d_H_measure_20 (by assumption) (by first | assumption | omega) (by first | assumption | omega) ?_
  have S := S.d hg (D' := upd (fun _ => -1) c0 0)
  generalize px_wr π1 (zh + 6 + g) (.inl (.int, n, .inl (upd (fun _ => -1) c0 0))) = π2 at S ⊢
  have hgc := S.1.gc
  rw [hm_r (by decide) (by omega)] at hgc
  have ho := S.1.o
  have hqu := S.1.qu
  rw [hm_5] at hqu
  have e0 : (0 : Int32) = nI 0 := rfl
  refine pg_aload_n X d_H_measure_21 rfl ?_
  refine pg_getf X (f_H_52 hG) d_H_measure_22 (px_rd_of ho) rfl ?_
  refine pg_iconst X (nI 0) d_H_measure_25 (by decide) ?_
  refine pg_aload_n X d_H_measure_26 rfl ?_
  refine pg_getf X (f_H_9 hG) d_H_measure_27 (px_rd_of (by assumption)) rfl ?_
  refine pg_iload_n X d_H_measure_30 rfl ?_
  refine pg_ialdN X d_H_measure_31 (px_rd_of (by assumption)) (by first | assumption | omega) (by first | assumption | omega) ?_
  rw [hc0]
  refine pg_iastN X d_H_measure_32 (by assumption) (by first | assumption | omega) (by first | assumption | omega) ?_
  have S := S.qq (Q' := upd (h 5) 0 (nI c0))
  generalize px_wr π2 (zh + 16) (.inl (.int, n, .inl (upd (h 5) 0 (nI c0)))) = π3 at S ⊢
  have BI0 : BI wd ht (h 1) c0 (upd (fun _ => -1) c0 0) (upd (h 5) 0 (nI c0)) 1 0 0 := BI.start hc0i (fun _ => rfl)
  generalize upd (fun _ => -1) c0 0 = D at S BI0
  generalize upd (h 5) 0 (nI c0) = Q at S BI0
  -- sides
  have sides : ∀ (r s f i c : Nat) (D Q : Nat → Int32) (π1 : px_H) (x : Option Value), s + r = 4 → i < f → Q i = nI c → inC wd ht c → BI wd ht (h 1) c0 D Q f i s → SH zh n (hm h g D Q) π π1 →
      (∀ (f : Nat) (D Q : Nat → Int32) (π1 : px_H) (x6 x7 : Option Value), i < f → BI wd ht (h 1) c0 D Q f i 4 → SH zh n (hm h g D Q) π π1 → px_G Γ G (px_Q Γ G true K) true 0 0 142 [some (.ref zh), some (.int (nI g)), some (.ref (zh + 6 + g)), some (.int (nI f)), some (.int (nI i)), some (.int (nI c)), x6, x7] [] π1) →
      px_G Γ G (px_Q Γ G true K) true 0 0 66 [some (.ref zh), some (.int (nI g)), some (.ref (zh + 6 + g)), some (.int (nI f)), some (.int (nI i)), some (.int (nI c)), some (.int (nI s)), x] [] π1 := by
    intro r
    induction r with
    | zero =>
      intro s f i c D Q π1 x hs hi hQ hc B S kk
      have es : s = 4 := by omega
      subst es
      refine pg_iload X d_H_measure_66 rfl ?_
      refine pg_iconst X (4) d_H_measure_68 (by decide) ?_
      refine pg_icmp_ge X d_H_measure_69 (fun c1 => ?_) (fun c1 => ?_)
      · exact kk f D Q π1 _ _ hi B S
      · exact absurd (by decide) c1
    | succ r ih =>
      intro s f i c D Q π1 x hs hi hQ hc B S kk
      have hlen := B.len hwd
      have hcl := inC_144 hwd hht hc
      have hcl2 := inC_lt hc
      have ho := S.1.o
      have hwl := S.1.wl
      rw [hm_r (by decide) (by omega)] at hwl
      have hrow := S.1.row hg
      rw [hm_g] at hrow
      have hqu := S.1.qu
      rw [hm_5] at hqu
      have e00 : hm h g D Q 0 0 = nI wd := by rw [hm_0]; exact h0
      have e01 : hm h g D Q 0 1 = nI ht := by rw [hm_0]; exact h1
      have go : ∀ x7, BI wd ht (h 1) c0 D Q f i (s + 1) → px_G Γ G (px_Q Γ G true K) true 0 0 136 [some (.ref zh), some (.int (nI g)), some (.ref (zh + 6 + g)), some (.int (nI f)), some (.int (nI i)), some (.int (nI c)), some (.int (nI s)), x7] [] π1 := by
        intro x7 B
        refine pg_iinc6 X d_H_measure_136 ?_
        refine pg_goto X d_H_measure_139 ?_
        rw [nI_i1]
        exact ih (s + 1) f i c D Q π1 x7 (by omega) hi hQ hc B S kk
      refine pg_iload X d_H_measure_66 rfl ?_
      refine pg_iconst X (4) d_H_measure_68 (by decide) ?_
      refine pg_icmp_ge X d_H_measure_69 (fun c1 => ?_) (fun c1 => ?_)
      · simp (disch := omega) only [Int32.lt_iff_toInt_lt, Int32.le_iff_toInt_le, nI_toInt, px_l0, px_l1, px_l2, px_l3, px_l4, px_l5, px_l6, px_l10, px_l11, px_l12, px_l16, px_l30, px_l100, px_l400] at c1
        omega
      refine pg_iload_n X d_H_measure_72 rfl ?_
      refine pg_aload_n X d_H_measure_73 rfl ?_
      refine pg_getf X (f_H_52 hG) d_H_measure_74 (px_rd_of (by assumption)) rfl ?_
      refine pg_alen X d_H_measure_77 (px_rd_of (by assumption)) ?_
      refine pg_icmp_ge X d_H_measure_78 (fun c5 => ?_) (fun c5 => ?_)
      · simp (disch := omega) only [Int32.lt_iff_toInt_lt, Int32.le_iff_toInt_le, nI_toInt, px_l0, px_l1, px_l2, px_l3, px_l4, px_l5, px_l6, px_l10, px_l11, px_l12, px_l16, px_l30, px_l100, px_l400] at c5
        exact kk f D Q π1 _ _ hi (B.fill hwd (by omega) hi) S
      clear c5
      refine pg_aload_n X d_H_measure_81 rfl ?_
      refine pg_iload X d_H_measure_82 rfl ?_
      refine pg_iload X d_H_measure_84 rfl ?_
      refine pc_V (ci := 0) (As := [_, _]) X Y d_H_measure_86 (c_H_69 hG) (i_H_neighbour hG) (v_H_neighbour hG) (fun r h => by rw [hG.2] at h; cases h; rfl) rfl rfl (Nat.le_of_ble_eq_true rfl) (by rw [hR]; exact ⟨by decide, by decide⟩) (by decide) (by decide) (by rw [hR]; first | decide | (dsimp only [px_rm]; omega)) (by rw [hR]; first | decide | (dsimp only [px_rm]; omega)) (px_rd_of (by assumption)) (t_H_neighbour A S.1 e00 e01 hwd hht hc (d := s) (by omega) ?_)
      refine pg_istore7 X d_H_measure_89 ?_
      refine pg_iload X d_H_measure_91 rfl ?_
      refine pg_iconst X (-1) d_H_measure_93 (by decide) ?_
      cases hnb : nbr wd ht c s with
      | none =>
        refine pg_icmp_eq X d_H_measure_94 (fun c2 => ?_) (fun c2 => ?_)
        · exact go _ (B.skip hi hQ hcl hwd hht (fun o q => by rw [hnb] at q; cases q))
        · exact absurd rfl c2
      | some o =>
        have hio := nbr_in hwd hc hnb
        have ho1 := inC_144 hwd hht hio
        have ho2 := inC_lt hio
        refine pg_icmp_eq X d_H_measure_94 (fun c2 => ?_) (fun c2 => ?_)
        · exact absurd c2 (nI_nm1 (a := o) (by omega))
        have hov : px_ov (some o) = nI o := rfl
        rw [hov]
        refine pg_aload_n X d_H_measure_97 rfl ?_
        refine pg_getf X (f_H_43 hG) d_H_measure_98 (px_rd_of (by assumption)) rfl ?_
        refine pg_iload X d_H_measure_101 rfl ?_
        refine pg_zaldN X d_H_measure_103 (px_rd_of (by assumption)) (by first | assumption | omega) (by first | assumption | omega) ?_
        refine pg_if_ne X d_H_measure_104 (fun c3 => ?_) (fun c3 => ?_)
        · exact go _ (B.skip hi hQ hcl hwd hht (fun o2 q w0 => by rw [hnb] at q; cases q; exact absurd w0 c3))
        refine pg_aload_n X d_H_measure_107 rfl ?_
        refine pg_iload X d_H_measure_108 rfl ?_
        refine pg_ialdN X d_H_measure_110 (px_rd_of (by assumption)) (by first | assumption | omega) (by first | assumption | omega) ?_
        refine pg_iconst X (-1) d_H_measure_111 (by decide) ?_
        refine pg_icmp_ne X d_H_measure_112 (fun c4 => ?_) (fun c4 => ?_)
        · exact go _ (B.skip hi hQ hcl hwd hht (fun o2 q w0 => by rw [hnb] at q; cases q; exact c4))
        have B2 := B.add hi hQ hcl hwd hht (by omega) hnb c3 c4
        have hlen2 := B2.len hwd
        refine pg_aload_n X d_H_measure_115 rfl ?_
        refine pg_iload X d_H_measure_116 rfl ?_
        refine pg_aload_n X d_H_measure_118 rfl ?_
        refine pg_iload X d_H_measure_119 rfl ?_
        refine pg_ialdN X d_H_measure_121 (px_rd_of (by assumption)) (by first | assumption | omega) (by first | assumption | omega) ?_
        refine pg_iconst X (1) d_H_measure_122 (by decide) ?_
        refine pg_iadd X d_H_measure_123 ?_
        refine pg_iastN X d_H_measure_124 (by assumption) (by first | assumption | omega) (by first | assumption | omega) ?_
        have S := S.d hg (D' := upd D o (D c + 1))
        generalize px_wr π1 (zh + 6 + g) (.inl (.int, n, .inl (upd D o (D c + 1)))) = π2 at S ⊢
        have ho := S.1.o
        have hqu := S.1.qu
        rw [hm_5] at hqu
        refine pg_aload_n X d_H_measure_125 rfl ?_
        refine pg_getf X (f_H_52 hG) d_H_measure_126 (px_rd_of (by assumption)) rfl ?_
        refine pg_iload_n X d_H_measure_129 rfl ?_
        refine pg_iload X d_H_measure_130 rfl ?_
        refine pg_iastN X d_H_measure_132 (by assumption) (by first | assumption | omega) (by first | assumption | omega) ?_
        have S := S.qq (Q' := upd Q f (nI o))
        refine pg_iinc3 X d_H_measure_133 ?_
        refine pg_iinc6 X d_H_measure_136 ?_
        refine pg_goto X d_H_measure_139 ?_
        rw [nI_i1, nI_i1]
        refine ih (s + 1) (f + 1) i c _ _ _ _ (by omega) (by omega) ?_ hc B2 S (fun f D Q π1 x6 x7 hf => kk f D Q π1 x6 x7 hf)
        simp [upd, show ¬ i = f by omega]
        exact hQ
  have outer : ∀ (r f i : Nat) (D Q : Nat → Int32) (π1 : px_H) (x5 x6 x7 : Option Value), i + r = n → i ≤ f → BI wd ht (h 1) c0 D Q f i 0 → SH zh n (hm h g D Q) π π1 → px_G Γ G (px_Q Γ G true K) true 0 0 38 [some (.ref zh), some (.int (nI g)), some (.ref (zh + 6 + g)), some (.int (nI f)), some (.int (nI i)), x5, x6, x7] [] π1 := by
    intro r
    induction r with
    | zero =>
      intro f i D Q π1 x5 x6 x7 hi hif B S
      have hlen := B.len hwd
      have ei : i = f := by omega
      subst ei
      refine pg_iload X d_H_measure_38 rfl ?_
      refine pg_iload_n X d_H_measure_40 rfl ?_
      refine pg_icmp_ge X d_H_measure_41 (fun c1 => ?_) (fun c1 => ?_)
      · exact pg_vret X Y d_H_measure_148 (by decide) (Nat.zero_le _) (Nat.zero_le _) (k D Q π1 (B.fin hwd hht) S.1 S.2)
      · simp (disch := omega) only [Int32.lt_iff_toInt_lt, Int32.le_iff_toInt_le, nI_toInt, px_l0, px_l1, px_l2, px_l3, px_l4, px_l5, px_l6, px_l10, px_l11, px_l12, px_l16, px_l30, px_l100, px_l400] at c1
        omega
    | succ r ih =>
      intro f i D Q π1 x5 x6 x7 hi hif B S
      have hlen := B.len hwd
      have ho := S.1.o
      have hqu := S.1.qu
      rw [hm_5] at hqu
      refine pg_iload X d_H_measure_38 rfl ?_
      refine pg_iload_n X d_H_measure_40 rfl ?_
      refine pg_icmp_ge X d_H_measure_41 (fun c1 => ?_) (fun c1 => ?_)
      · simp (disch := omega) only [Int32.lt_iff_toInt_lt, Int32.le_iff_toInt_le, nI_toInt, px_l0, px_l1, px_l2, px_l3, px_l4, px_l5, px_l6, px_l10, px_l11, px_l12, px_l16, px_l30, px_l100, px_l400] at c1
        have ei : i = f := by omega
        subst ei
        exact pg_vret X Y d_H_measure_148 (by decide) (Nat.zero_le _) (Nat.zero_le _) (k D Q π1 (B.fin hwd hht) S.1 S.2)
      simp (disch := omega) only [Int32.lt_iff_toInt_lt, Int32.le_iff_toInt_le, nI_toInt, px_l0, px_l1, px_l2, px_l3, px_l4, px_l5, px_l6, px_l10, px_l11, px_l12, px_l16, px_l30, px_l100, px_l400] at c1
      refine pg_iload X d_H_measure_44 rfl ?_
      refine pg_aload_n X d_H_measure_46 rfl ?_
      refine pg_getf X (f_H_52 hG) d_H_measure_47 (px_rd_of (by assumption)) rfl ?_
      refine pg_alen X d_H_measure_50 (px_rd_of (by assumption)) ?_
      refine pg_icmp_ge X d_H_measure_51 (fun c2 => ?_) (fun c2 => ?_)
      · simp (disch := omega) only [Int32.lt_iff_toInt_lt, Int32.le_iff_toInt_le, nI_toInt, px_l0, px_l1, px_l2, px_l3, px_l4, px_l5, px_l6, px_l10, px_l11, px_l12, px_l16, px_l30, px_l100, px_l400] at c2
        omega
      obtain ⟨c, hc1, hc2⟩ := B.cell (by omega)
      refine pg_aload_n X d_H_measure_54 rfl ?_
      refine pg_getf X (f_H_52 hG) d_H_measure_55 (px_rd_of (by assumption)) rfl ?_
      refine pg_iload X d_H_measure_58 rfl ?_
      refine pg_ialdN X d_H_measure_60 (px_rd_of (by assumption)) (by first | assumption | omega) (by first | assumption | omega) ?_
      rw [hc1]
      refine pg_istore5 X d_H_measure_61 ?_
      refine pg_iconst X (0) d_H_measure_63 (by decide) ?_
      refine pg_istore6 X d_H_measure_64 ?_
      refine sides 4 0 f i c D Q π1 _ rfl (by omega) hc1 hc2 B S ?_
      intro f D Q π1 x6 x7 hif B S
      refine pg_iinc4 X d_H_measure_142 ?_
      refine pg_goto X d_H_measure_145 ?_
      rw [nI_i1]
      exact ih f (i + 1) D Q π1 _ _ _ (by omega) (by omega) (B.next hif) S
  refine pg_iconst X (1) d_H_measure_33 (by decide) ?_
  refine pg_istore3 X d_H_measure_34 ?_
  refine pg_iconst X (0) d_H_measure_35 (by decide) ?_
  refine pg_istore4 X d_H_measure_36 ?_
  exact outer n 1 0 D Q π3 _ _ _ (by omega) (by omega) BI0 S
end MEA
