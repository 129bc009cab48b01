/-! WALK: going on, a second passes -/
def HF (h : Nat → Nat → Int32) (wd ht nt nd n : Nat) : Prop := h 0 0 = nI wd ∧ h 0 1 = nI ht ∧ h 0 3 = nI nt ∧ h 0 4 = nI nd ∧ (4 ≤ wd ∧ wd ≤ 12) ∧ (4 ≤ ht ∧ ht ≤ 12) ∧ nt ≤ 6 ∧ nd ≤ 4 ∧ n = 12 * ht ∧ ∀ g, isG nt nd g → ∃ c, h 2 g = nI c ∧ inC wd ht c
def vok (wd ht nt nd : Nat) (v : Nat → Int32) : Prop := (∃ c, v 5 = nI c ∧ inC wd ht c) ∧ (∃ o, v 6 = px_ov o ∧ ∀ g, o = some g → isG nt nd g) ∧ ∃ d, v 1 = nI (6 + d) ∧ d < nd
def WF (w : Nat → Nat → Int32) (wd ht nt nd tl : Nat) : Prop := w 0 0 = nI tl ∧ tl ≤ 16 ∧ ∀ i, i < tl → vok wd ht nt nd (w (6 + i))
section WFS
variable {w : Nat → Nat → Int32} {wd ht nt nd tl : Nat}
theorem vok.up {v v' : Nat → Int32} (h : vok wd ht nt nd v) (h1 : v' 1 = v 1) (h5 : v' 5 = v 5) (h6 : v' 6 = v 6) : vok wd ht nt nd v' := by
  unfold vok
  rw [h1, h5, h6]
  exact h
theorem WF.u0 (F : WF w wd ht nt nd tl) {j : Nat} {x : Int32} (hj : j ≠ 0) : WF (up2 w 0 j x) wd ht nt nd tl := ⟨by rw [up2_v (fun q => hj q.symm)]; exact F.1, F.2.1, fun i hi => by rw [up2_r (by omega)]; exact F.2.2 i hi⟩
theorem WF.ua (F : WF w wd ht nt nd tl) {r j : Nat} {x : Int32} (h0 : r ≠ 0) (h6 : r < 6) : WF (up2 w r j x) wd ht nt nd tl := ⟨by rw [up2_n (by omega)]; exact F.1, F.2.1, fun i hi => by rw [up2_r (by omega)]; exact F.2.2 i hi⟩
theorem WF.uv (F : WF w wd ht nt nd tl) {i j : Nat} {x : Int32} (h1 : j ≠ 1) (h5 : j ≠ 5) (h6 : j ≠ 6) : WF (up2 w (6 + i) j x) wd ht nt nd tl := ⟨by rw [up2_n (by omega)]; exact F.1, F.2.1, fun a ha => by
  by_cases q : a = i
  · subst q
    exact (F.2.2 a ha).up (up2_v (fun q => h1 q.symm)) (up2_v (fun q => h5 q.symm)) (up2_v (fun q => h6 q.symm))
  · rw [up2_r (by omega)]
    exact F.2.2 a ha⟩
theorem WF.u5 (F : WF w wd ht nt nd tl) {i c : Nat} (hc : inC wd ht c) : WF (up2 w (6 + i) 5 (nI c)) wd ht nt nd tl := ⟨by rw [up2_n (by omega)]; exact F.1, F.2.1, fun a ha => by
  by_cases q : a = i
  · subst q
    obtain ⟨-, h2, h3⟩ := F.2.2 a ha
    exact ⟨⟨c, up2_s, hc⟩, by rw [up2_v (by decide)]; exact h2, by rw [up2_v (by decide)]; exact h3⟩
  · rw [up2_r (by omega)]
    exact F.2.2 a ha⟩
theorem WF.u6 (F : WF w wd ht nt nd tl) {i : Nat} {o : Option Nat} (ho : ∀ g, o = some g → isG nt nd g) : WF (up2 w (6 + i) 6 (px_ov o)) wd ht nt nd tl := ⟨by rw [up2_n (by omega)]; exact F.1, F.2.1, fun a ha => by
  by_cases q : a = i
  · subst q
    obtain ⟨h1, -, h3⟩ := F.2.2 a ha
    exact ⟨by rw [up2_v (by decide)]; exact h1, ⟨o, up2_s, ho⟩, by rw [up2_v (by decide)]; exact h3⟩
  · rw [up2_r (by omega)]
    exact F.2.2 a ha⟩
theorem WF.tr (F : WF w wd ht nt nd tl) {i : Nat} {o : Option Nat} (ho : ∀ g, o = some g → isG nt nd g) : WF (trn w i (px_ov o)) wd ht nt nd tl := (F.u6 ho).uv (by decide) (by decide) (by decide)
theorem WF.tr1 (F : WF w wd ht nt nd tl) {i : Nat} : WF (trn w i (-1)) wd ht nt nd tl := F.tr (o := none) (fun g hg => by cases hg)
theorem WF.iW (F : WF w wd ht nt nd tl) {i c d : Nat} (hc : inC wd ht c) : WF (inW w i c d) wd ht nt nd tl := ((((F.uv (by decide) (by decide) (by decide)).u5 hc).ua (by decide) (by decide)).u0 (by decide)).ua (by decide) (by decide)
theorem WF.sW (F : WF w wd ht nt nd tl) {i c o : Nat} (ho : inC wd ht o) : WF (stW w i c o) wd ht nt nd tl := ((F.ua (by decide) (by decide)).ua (by decide) (by decide)).u5 ho
theorem WF.oW (F : WF w wd ht nt nd tl) {i c g : Nat} : WF (outW w i c g) wd ht nt nd tl := (((((F.ua (by decide) (by decide)).ua (by decide) (by decide)).u0 (by decide)).u0 (by decide)).uv (by decide) (by decide) (by decide)).tr1
theorem WF.l1 (F : WF w wd ht nt nd tl) {i : Nat} : WF (lk1 w i) wd ht nt nd tl := F.uv (by decide) (by decide) (by decide)
theorem WF.lD (F : WF w wd ht nt nd tl) {i t : Nat} : WF (lkD w i t) wd ht nt nd tl := (((F.ua (by decide) (by decide)).uv (by decide) (by decide) (by decide)).uv (by decide) (by decide) (by decide)).tr1
theorem WF.lW (F : WF w wd ht nt nd tl) {h : Nat → Nat → Int32} {i t tl' : Nat} : WF (lkW h w i t tl') wd ht nt nd tl := by
  unfold lkW
  by_cases q : h 4 t ≤ lk1 w i (6 + i) 7 ∧ doneG h (lk1 w i) i t tl'
  · rw [px_if_t q]
    exact F.l1.lD
  · rw [px_if_f q]
    exact F.l1
end WFS
section WAP
variable {l : Launch} {G : px_Cg} {π π0 : px_H} {K : Option Value ⊕ String → px_H → Prop} {zh zw n nt nd wd ht tl : Nat} {h w : Nat → Nat → Int32}
def dG (h w : Nat → Nat → Int32) (i : Nat) : Int32 := if w (6 + i) 6 < 0 then -1 else h (6 + (w (6 + i) 6).toNatClampNeg) (w (6 + i) 5).toNatClampNeg
def goA (h w : Nat → Nat → Int32) (i nt nd : Nat) : Nat → Nat → Int32 := if dG h w i = -1 then trn w i (chV h w i (w (6 + i) 5).toNatClampNeg nt nd) else w
def stI (h w : Nat → Nat → Int32) (i c g wd ht : Nat) : Nat → Nat → Int32 := if nearC wd ht (h (6 + g)) c < 0 then w else if w 1 (nearC wd ht (h (6 + g)) c).toNatClampNeg < h 0 5 then stW w i c (nearC wd ht (h (6 + g)) c).toNatClampNeg else w
noncomputable def goB (h w : Nat → Nat → Int32) (i wd ht tl : Nat) : Nat → Nat → Int32 :=
  if w (6 + i) 6 = -1 then w else if h 2 (w (6 + i) 6).toNatClampNeg = w (6 + i) 5 then (if 6 ≤ (w (6 + i) 6).toNatClampNeg then outW w i (w (6 + i) 5).toNatClampNeg (w (6 + i) 6).toNatClampNeg else lkW h w i (w (6 + i) 6).toNatClampNeg tl) else stI h w i (w (6 + i) 5).toNatClampNeg (w (6 + i) 6).toNatClampNeg wd ht
noncomputable def goW (h w : Nat → Nat → Int32) (i wd ht nt nd tl : Nat) : Nat → Nat → Int32 := goB h (goA h w i nt nd) i wd ht tl
theorem goA_F (F : WF w wd ht nt nd tl) {i : Nat} : WF (goA h w i nt nd) wd ht nt nd tl := by
  unfold goA
  split
  · obtain ⟨o, h1, h2⟩ := chV_ov (h := h) (w := w) (nt := nt) (nd := nd) (i := i) (c := (w (6 + i) 5).toNatClampNeg)
    rw [h1]
    exact F.tr h2
  · exact F
theorem m1_lt : (-1 : Int32) < 0 := by decide
theorem nI_nm1 {a : Nat} (ha : a < 2 ^ 31) : ¬ nI a = -1 := by
  intro q
  have h1 := nI_pos ha
  rw [q] at h1
  exact h1 m1_lt
theorem inC_144 {c : Nat} (hw : wd ≤ 12) (hh : ht ≤ 12) (hc : inC wd ht c) : c < 144 := by unfold inC at hc; omega
theorem isG_10 {g : Nat} (ht : nt ≤ 6) (hd : nd ≤ 4) (h : isG nt nd g) : g < 10 := by unfold isG at h; omega
theorem stI_F (F : WF w wd ht nt nd tl) (hw : wd ≤ 12) (hh : ht ≤ 12) {i c g : Nat} (hc : inC wd ht c) : WF (stI h w i c g wd ht) wd ht nt nd tl := by
  obtain ⟨o, h1, h2⟩ := nearC_ov (r := h (6 + g)) hw hc
  unfold stI
  rw [h1]
  cases o with
  | none =>
    rw [if_pos (show px_ov none < 0 from m1_lt)]
    exact F
  | some x =>
    have hx := inC_144 hw hh (h2 x rfl)
    rw [if_neg (show ¬ px_ov (some x) < 0 from nI_pos (by omega))]
    split
    · have e : (px_ov (some x)).toNatClampNeg = x := nI_clamp (by omega)
      rw [e]
      exact F.sW (h2 x rfl)
    · exact F
theorem goB_F (F : WF w wd ht nt nd tl) (hw : wd ≤ 12) (hh : ht ≤ 12) {i : Nat} (hi : i < tl) : WF (goB h w i wd ht tl) wd ht nt nd tl := by
  obtain ⟨⟨c, hc1, hc2⟩, -, -⟩ := F.2.2 i hi
  have hc3 := inC_144 hw hh hc2
  have e : (w (6 + i) 5).toNatClampNeg = c := by rw [hc1]; exact nI_clamp (by omega)
  unfold goB
  split
  · exact F
  · split
    · split
      · exact F.oW
      · exact F.lW
    · rw [e]
      exact stI_F F hw hh hc2
theorem t_K_goOn (A : GA G) (S : SW zw zh n w h π0 π) (B : HF h wd ht nt nd n) (F : WF w wd ht nt nd tl) {i : Nat} (hi : i < tl)
    (k : ∀ π1, SW zw zh n (goW h w i wd ht nt nd tl) h π0 π1 → K (.inl none) π1) :
    px_P l G y_K_goOn b_K_goOn 2 none (px_rm 3 71) true [.ref zw, .ref (zw + 6 + i)] π K := by
  have hG := A.1
  have hZ := A.2.1
  refine px_P.intro (by decide) hZ (by simp [Value.category]) (Nat.le_of_ble_eq_true rfl) rfl ?_
  intro Γ hl hR X Y hnm hs hbel
  subst hl
  refine pg_w ?_
  obtain ⟨B0, B1, B3, B4, Bw, Bh, Bt, Bd, Bn, Bg⟩ := B
  obtain ⟨F0, Ft, Fv⟩ := id F
  have hi16 : i < 16 := by omega
  obtain ⟨⟨c, hc1, hc2⟩, ⟨o, ho1, ho2⟩, -⟩ := Fv i hi
  have hc3 := inC_144 Bw.2 Bh.2 hc2
  have hc4 := inC_lt hc2
  have ec : (w (6 + i) 5).toNatClampNeg = c := by rw [hc1]; exact nI_clamp (by omega)
  have key : ∀ π1, SW zw zh n (goA h w i nt nd) h π0 π1 → px_G Γ G (px_Q Γ G true K) true 0 0 28 [some (.ref zw), some (.ref (zw + 6 + i))] [] π1 := by
    intro π1 S
    have F1 : WF (goA h w i nt nd) wd ht nt nd tl := goA_F F
    unfold goW at k
    generalize goA h w i nt nd = w1 at S k F1
    clear F Fv hc1 hc2 hc3 hc4 ec ho1 ho2 c o
    obtain ⟨F0, Ft, Fv⟩ := id F1
    obtain ⟨⟨c, hc1, hc2⟩, ⟨o, ho1, ho2⟩, -⟩ := Fv i hi
    have hc3 := inC_144 Bw.2 Bh.2 hc2
    have hc4 := inC_lt hc2
    have ec : (w1 (6 + i) 5).toNatClampNeg = c := by rw [hc1]; exact nI_clamp (by omega)
    have ho := S.1.o
    have hvs := S.1.vs
    have hcr := S.1.cr
    have hsd := S.1.sd
    have hca := S.1.ca
    have hdn := S.1.dn
    have hh := S.2.1.o
    have hgc := S.2.1.gc
    have hit := S.2.1.it
    have hsy := S.2.1.sy
    have hv := S.1.v (i := i) (by first | assumption | omega)
    have hv2 := hv
    rw [ho1] at hv2
    clear hv
    cases o with
    | none =>
      refine pg_aload_n X d_K_goOn_28 rfl ?_
      refine pg_getf X (f_K_41 hG) d_K_goOn_29 (px_rd_of (by assumption)) rfl ?_
      refine pg_aload_n X d_K_goOn_32 rfl ?_
      refine pg_getf X (f_K_119 hG) d_K_goOn_33 (px_rd_of (by assumption)) rfl ?_
      refine pc_V (ci := 0) (As := [_]) X Y d_K_goOn_36 (c_K_130 hG) (i_H_isGoal hG) (v_H_isGoal hG) (fun r h => by rw [hG.2] at h; cases h; rfl) rfl rfl (Nat.le_of_ble_eq_true rfl) (by rw [hR]; exact ⟨by decide, by decide⟩) (by decide) (by decide) (by rw [hR]; first | decide | (dsimp only [px_rm]; omega)) (by rw [hR]; first | decide | (dsimp only [px_rm]; omega)) (px_rd_of (by assumption)) (t_H_isGoalN A S.2.1 m1_lt ?_)
      refine pg_if_ne X d_K_goOn_39 (fun c1 => ?_) (fun c1 => ?_)
      · exact absurd rfl c1
      · unfold goB at k
        rw [if_pos (show w1 (6 + i) 6 = -1 from ho1)] at k
        exact pg_vret X Y d_K_goOn_42 (by decide) (Nat.zero_le _) (Nat.zero_le _) (k _ S)
    | some g =>
      have hg1 := ho2 g rfl
      have hg := isG_10 Bt Bd hg1
      have ho3 : w1 (6 + i) 6 = nI g := ho1
      have eg : (w1 (6 + i) 6).toNatClampNeg = g := by rw [ho3]; exact nI_clamp (by omega)
      have hne : ¬ w1 (6 + i) 6 = -1 := by rw [ho3]; exact nI_nm1 (by omega)
      unfold goB at k
      rw [if_neg hne, eg, ec] at k
      have hv3 : π1.2 (zw + 6 + i) = some (.inr (1, [.int (w1 (6 + i) 0), .int (w1 (6 + i) 1), .int (w1 (6 + i) 2), .int (w1 (6 + i) 3), .int (w1 (6 + i) 4), .int (w1 (6 + i) 5), .int (nI g), .int (w1 (6 + i) 7), .int (w1 (6 + i) 8), .int (w1 (6 + i) 9)])) := hv2
      clear hv2
      refine pg_aload_n X d_K_goOn_28 rfl ?_
      refine pg_getf X (f_K_41 hG) d_K_goOn_29 (px_rd_of (by assumption)) rfl ?_
      refine pg_aload_n X d_K_goOn_32 rfl ?_
      refine pg_getf X (f_K_119 hG) d_K_goOn_33 (px_rd_of (by assumption)) rfl ?_
      refine pc_V (ci := 0) (As := [_]) X Y d_K_goOn_36 (c_K_130 hG) (i_H_isGoal hG) (v_H_isGoal hG) (fun r h => by rw [hG.2] at h; cases h; rfl) rfl rfl (Nat.le_of_ble_eq_true rfl) (by rw [hR]; exact ⟨by decide, by decide⟩) (by decide) (by decide) (by rw [hR]; first | decide | (dsimp only [px_rm]; omega)) (by rw [hR]; first | decide | (dsimp only [px_rm]; omega)) (px_rd_of (by assumption)) (t_H_isGoal A S.2.1 B3 B4 Bt Bd (g := g) hg (fun hy => ?_) (fun hy => ?_))
      · refine pg_if_ne X d_K_goOn_39 (fun c1 => ?_) (fun c1 => ?_)
        · obtain ⟨cg, hcg1, hcg2⟩ := Bg g hg1
          refine pg_aload_n X d_K_goOn_43 rfl ?_
          refine pg_getf X (f_K_41 hG) d_K_goOn_44 (px_rd_of (by assumption)) rfl ?_
          refine pg_getf X (f_K_112 hG) d_K_goOn_47 (px_rd_of (by assumption)) rfl ?_
          refine pg_aload_n X d_K_goOn_50 rfl ?_
          refine pg_getf X (f_K_119 hG) d_K_goOn_51 (px_rd_of (by assumption)) rfl ?_
          refine pg_ialdN X d_K_goOn_54 (px_rd_of (by assumption)) (by first | assumption | omega) (by first | assumption | omega) ?_
          refine pg_aload_n X d_K_goOn_55 rfl ?_
          refine pg_getf X (f_K_106 hG) d_K_goOn_56 (px_rd_of (by assumption)) rfl ?_
          refine pg_icmp_eq X d_K_goOn_59 (fun c2 => ?_) (fun c2 => ?_)
          · rw [if_pos c2] at k
            refine pg_aload_n X d_K_goOn_70 rfl ?_
            refine pg_getf X (f_K_119 hG) d_K_goOn_71 (px_rd_of (by assumption)) rfl ?_
            refine pg_bipush X (6) d_K_goOn_74 (by decide) ?_
            refine pg_icmp_lt X d_K_goOn_76 (fun c3 => ?_) (fun c3 => ?_)
            · simp (disch := omega) only [Int32.lt_iff_toInt_lt, Int32.le_iff_toInt_le, nI_toInt, px_l0, px_l1, px_l2, px_l3, px_l4, px_l5, px_l6, px_l10, px_l11, px_l12, px_l16, px_l30, px_l100, px_l400] at c3
              rw [if_neg (by omega)] at k
              refine pg_aload_n X d_K_goOn_87 rfl ?_
              refine pg_aload_n X d_K_goOn_88 rfl ?_
              refine pc_V (ci := 2) (As := [_]) X Y d_K_goOn_89 (c_K_139 hG) (i_K_look hG) (v_K_look hG) (fun r h => by rw [hG.2] at h; cases h; rfl) rfl rfl (Nat.le_of_ble_eq_true rfl) (by rw [hR]; exact ⟨by decide, by decide⟩) (by decide) (by decide) (by rw [hR]; first | decide | (dsimp only [px_rm]; omega)) (by rw [hR]; first | decide | (dsimp only [px_rm]; omega)) (px_rd_of (by assumption)) (t_K_look A S F0 Ft hi16 ho3 (t := g) (by omega) (fun π2 S => ?_))
              exact pg_vret X Y d_K_goOn_92 (by decide) (Nat.zero_le _) (Nat.zero_le _) (k _ S)
            · simp (disch := omega) only [Int32.lt_iff_toInt_lt, Int32.le_iff_toInt_le, nI_toInt, px_l0, px_l1, px_l2, px_l3, px_l4, px_l5, px_l6, px_l10, px_l11, px_l12, px_l16, px_l30, px_l100, px_l400] at c3
              rw [if_pos (by omega)] at k
              refine pg_aload_n X d_K_goOn_79 rfl ?_
              refine pg_aload_n X d_K_goOn_80 rfl ?_
              refine pc_V (ci := 2) (As := [_]) X Y d_K_goOn_81 (c_K_136 hG) (i_K_goOut hG) (v_K_goOut hG) (fun r h => by rw [hG.2] at h; cases h; rfl) rfl rfl (Nat.le_of_ble_eq_true rfl) (by rw [hR]; exact ⟨by decide, by decide⟩) (by decide) (by decide) (by rw [hR]; first | decide | (dsimp only [px_rm]; omega)) (by rw [hR]; first | decide | (dsimp only [px_rm]; omega)) (px_rd_of (by assumption)) (t_K_goOut A S (by omega) hi16 ho3 hg hc1 (by omega) (fun π2 S => ?_))
              refine pg_goto X d_K_goOn_84 ?_
              exact pg_vret X Y d_K_goOn_92 (by decide) (Nat.zero_le _) (Nat.zero_le _) (k _ S)
          · rw [if_neg c2] at k
            refine pg_aload_n X d_K_goOn_62 rfl ?_
            refine pg_aload_n X d_K_goOn_63 rfl ?_
            obtain ⟨q, hq1, hq2⟩ := nearC_ov (r := h (6 + g)) Bw.2 hc2
            unfold stI at k
            rw [hq1] at k
            refine pc_V (ci := 2) (As := [_]) X Y d_K_goOn_64 (c_K_133 hG) (i_K_step hG) (v_K_step hG) (fun r h => by rw [hG.2] at h; cases h; rfl) rfl rfl (Nat.le_of_ble_eq_true rfl) (by rw [hR]; exact ⟨by decide, by decide⟩) (by decide) (by decide) (by rw [hR]; first | decide | (dsimp only [px_rm]; omega)) (by rw [hR]; first | decide | (dsimp only [px_rm]; omega)) (px_rd_of (by assumption)) (t_K_step A S Bn B0 B1 Bw.2 Bh.2 hi16 ho3 hg hc1 hc2 hq1 hq2 (fun π2 S => ?_))
            refine pg_goto X d_K_goOn_67 ?_
            cases q with
            | none =>
              rw [if_pos (show px_ov none < 0 from m1_lt)] at k
              exact pg_vret X Y d_K_goOn_92 (by decide) (Nat.zero_le _) (Nat.zero_le _) (k _ S)
            | some x =>
              have hx := inC_144 Bw.2 Bh.2 (hq2 x rfl)
              have ex : (px_ov (some x)).toNatClampNeg = x := nI_clamp (by omega)
              rw [if_neg (show ¬ px_ov (some x) < 0 from nI_pos (by omega)), ex] at k
              exact pg_vret X Y d_K_goOn_92 (by decide) (Nat.zero_le _) (Nat.zero_le _) (k _ S)
        · exact absurd c1 (by decide)
      · exact absurd hg1 hy
  have ho := S.1.o
  have hvs := S.1.vs
  have hcr := S.1.cr
  have hsd := S.1.sd
  have hca := S.1.ca
  have hdn := S.1.dn
  have hh := S.2.1.o
  have hgc := S.2.1.gc
  have hit := S.2.1.it
  have hsy := S.2.1.sy
  have hv := S.1.v (i := i) (by first | assumption | omega)
  have hv2 := hv
  rw [ho1, hc1] at hv2
  have hd : dG h w i = -1 → px_G Γ G (px_Q Γ G true K) true 0 0 19 [some (.ref zw), some (.ref (zw + 6 + i))] [] π := by
    intro q
    unfold goA at key
    rw [if_pos q, ec] at key
    refine pg_aload_n X d_K_goOn_19 rfl ?_
    refine pg_aload_n X d_K_goOn_20 rfl ?_
    refine pg_aload_n X d_K_goOn_21 rfl ?_
    refine pc_V (ci := 2) (As := [_]) X Y d_K_goOn_22 (c_K_126 hG) (i_K_choose hG) (v_K_choose hG) (fun r h => by rw [hG.2] at h; cases h; rfl) rfl rfl (Nat.le_of_ble_eq_true rfl) (by rw [hR]; exact ⟨by decide, by decide⟩) (by decide) (by decide) (by rw [hR]; first | decide | (dsimp only [px_rm]; omega)) (by rw [hR]; first | decide | (dsimp only [px_rm]; omega)) (px_rd_of (by assumption)) (t_K_choose A S.1 S.2.1 (by omega) B3 Bt B4 Bd hi16 hc1 (by omega) ?_)
    refine pc_V (ci := 1) (As := [_]) X Y d_K_goOn_25 (c_K_93 hG) (i_P_turnTo hG) (v_P_turnTo hG) (fun r h => by rw [hG.2] at h; cases h; rfl) rfl rfl (Nat.le_of_ble_eq_true rfl) (by rw [hR]; exact ⟨by decide, by decide⟩) (by decide) (by decide) (by rw [hR]; first | decide | (dsimp only [px_rm]; omega)) (by rw [hR]; first | decide | (dsimp only [px_rm]; omega)) (px_rd_of (by assumption)) (t_turn A S hi16 (fun π1 S => ?_))
    exact key π1 S
  clear hv
  refine pg_aload_n X d_K_goOn_0 rfl ?_
  refine pg_getf X (f_K_41 hG) d_K_goOn_1 (px_rd_of (by assumption)) rfl ?_
  refine pg_aload_n X d_K_goOn_4 rfl ?_
  refine pg_getf X (f_K_119 hG) d_K_goOn_5 (px_rd_of (by assumption)) rfl ?_
  refine pg_aload_n X d_K_goOn_8 rfl ?_
  refine pg_getf X (f_K_106 hG) d_K_goOn_9 (px_rd_of (by assumption)) rfl ?_
  cases o with
  | none =>
    have e1 : dG h w i = -1 := by
      unfold dG
      rw [if_pos (by rw [ho1]; exact m1_lt)]
    refine pc_V (ci := 0) (As := [_, _]) X Y d_K_goOn_12 (c_K_122 hG) (i_H_distanceTo hG) (v_H_distanceTo hG) (fun r h => by rw [hG.2] at h; cases h; rfl) rfl rfl (Nat.le_of_ble_eq_true rfl) (by rw [hR]; exact ⟨by decide, by decide⟩) (by decide) (by decide) (by rw [hR]; first | decide | (dsimp only [px_rm]; omega)) (by rw [hR]; first | decide | (dsimp only [px_rm]; omega)) (px_rd_of (by assumption)) (t_H_distanceToN A S.2.1 (Or.inl m1_lt) ?_)
    refine pg_iconst X (-1) d_K_goOn_15 (by decide) ?_
    refine pg_icmp_ne X d_K_goOn_16 (fun c1 => ?_) (fun c1 => ?_)
    · exact absurd rfl c1
    · exact hd e1
  | some g =>
    have hg := isG_10 Bt Bd (ho2 g rfl)
    have ho3 : w (6 + i) 6 = nI g := ho1
    have e1 : dG h w i = h (6 + g) c := by
      unfold dG
      rw [if_neg (by rw [ho3]; exact nI_pos (by omega)), ec, ho3, nI_clamp (by omega)]
    refine pc_V (ci := 0) (As := [_, _]) X Y d_K_goOn_12 (c_K_122 hG) (i_H_distanceTo hG) (v_H_distanceTo hG) (fun r h => by rw [hG.2] at h; cases h; rfl) rfl rfl (Nat.le_of_ble_eq_true rfl) (by rw [hR]; exact ⟨by decide, by decide⟩) (by decide) (by decide) (by rw [hR]; first | decide | (dsimp only [px_rm]; omega)) (by rw [hR]; first | decide | (dsimp only [px_rm]; omega)) (px_rd_of (by assumption)) (t_H_distanceTo A S.2.1 (by omega) hg (c := c) (by omega) ?_)
    refine pg_iconst X (-1) d_K_goOn_15 (by decide) ?_
    refine pg_icmp_ne X d_K_goOn_16 (fun c1 => ?_) (fun c1 => ?_)
    · unfold goA at key
      rw [e1, if_neg c1] at key
      exact key π S
    · exact hd (e1.trans c1)
end WAP
