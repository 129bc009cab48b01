/-! HOUSE: distances read, neighbours, the nearest door -/
def inC (wd ht c : Nat) : Prop := c % 12 < wd ∧ c / 12 < ht
def nbr (wd ht c d : Nat) : Option Nat := match d with
  | 0 => if 12 ≤ c then some (c - 12) else none
  | 1 => if c % 12 + 1 < wd then some (c + 1) else none
  | 2 => if c / 12 + 1 < ht then some (c + 12) else none
  | _ => if 0 < c % 12 then some (c - 1) else none
def px_ov (o : Option Nat) : Int32 := match o with
  | some c => nI c
  | none => -1
theorem nb_t : ∀ c, c < 144 → ∀ d, d < 4 → (nI c - nI c / 12 * 12 + sideX d).toInt = ((c % 12 : Nat) : Int) + (sideX d).toInt ∧ (nI c / 12 + sideY d).toInt = ((c / 12 : Nat) : Int) + (sideY d).toInt := by decide +kernel
theorem nb_v : ∀ c, c < 144 → ∀ d, d < 4 → (nbr 13 13 c d).all (fun o => decide ((nI c / 12 + sideY d) * 12 + (nI c - nI c / 12 * 12 + sideX d) = nI o)) = true := by decide +kernel
theorem nbr_13 {wd ht c d o : Nat} (hw : wd ≤ 12) (hh : ht ≤ 12) (h : nbr wd ht c d = some o) : nbr 13 13 c d = some o := by
  unfold nbr at h ⊢
  match d with
  | 0 => exact h
  | 1 =>
    simp only at h ⊢
    split at h
    · rw [if_pos (by omega)]; exact h
    · cases h
  | 2 =>
    simp only at h ⊢
    split at h
    · rw [if_pos (by omega)]; exact h
    · cases h
  | (k + 3) => exact h
theorem nb_some {wd ht c d o : Nat} (hw : wd ≤ 12) (hh : ht ≤ 12) (hc : c < 144) (hd : d < 4) (h : nbr wd ht c d = some o) : (nI c / 12 + sideY d) * 12 + (nI c - nI c / 12 * 12 + sideX d) = nI o := by
  have h1 := nb_v c hc d hd
  rw [nbr_13 hw hh h] at h1
  simpa using h1
theorem sd_x : (sideX 0).toInt = 0 ∧ (sideX 1).toInt = 1 ∧ (sideX 2).toInt = 0 ∧ (sideX 3).toInt = -1 := by decide
theorem sd_y : (sideY 0).toInt = -1 ∧ (sideY 1).toInt = 0 ∧ (sideY 2).toInt = 1 ∧ (sideY 3).toInt = 0 := by decide
theorem nb_iff {wd ht c d : Nat} (hc : inC wd ht c) (hd : d < 4) : nbr wd ht c d ≠ none ↔ 0 ≤ ((c % 12 : Nat) : Int) + (sideX d).toInt ∧ ((c % 12 : Nat) : Int) + (sideX d).toInt < wd ∧ 0 ≤ ((c / 12 : Nat) : Int) + (sideY d).toInt ∧ ((c / 12 : Nat) : Int) + (sideY d).toInt < ht := by
  obtain ⟨x0, x1, x2, x3⟩ := sd_x
  obtain ⟨y0, y1, y2, y3⟩ := sd_y
  have hcx := hc.1
  have hcy := hc.2
  obtain rfl | rfl | rfl | rfl : d = 0 ∨ d = 1 ∨ d = 2 ∨ d = 3 := by omega
  · rw [x0, y0]
    by_cases q : 12 ≤ c
    · simp only [nbr, if_pos q, ne_eq, reduceCtorEq, not_false_eq_true, true_iff]; omega
    · simp only [nbr, if_neg q, ne_eq, not_true_eq_false, false_iff]; omega
  · rw [x1, y1]
    by_cases q : c % 12 + 1 < wd
    · simp only [nbr, if_pos q, ne_eq, reduceCtorEq, not_false_eq_true, true_iff]; omega
    · simp only [nbr, if_neg q, ne_eq, not_true_eq_false, false_iff]; omega
  · rw [x2, y2]
    by_cases q : c / 12 + 1 < ht
    · simp only [nbr, if_pos q, ne_eq, reduceCtorEq, not_false_eq_true, true_iff]; omega
    · simp only [nbr, if_neg q, ne_eq, not_true_eq_false, false_iff]; omega
  · rw [x3, y3]
    by_cases q : 0 < c % 12
    · simp only [nbr, if_pos q, ne_eq, reduceCtorEq, not_false_eq_true, true_iff]; omega
    · simp only [nbr, if_neg q, ne_eq, not_true_eq_false, false_iff]; omega
section HOR
variable {l : Launch} {G : px_Cg} {π : px_H} {K : Option Value ⊕ String → px_H → Prop} {zh n nt nd wd ht : Nat} {h : Nat → Nat → Int32}
theorem t_H_distanceTo (A : GA G) (H : RH zh n h π) (hn : n < 2 ^ 31) {g c : Nat} (hg : g < 10) (hc : c < n) (k : K (.inl (some (.int (h (6 + g) c)))) π) :
    px_P l G y_H_distanceTo b_H_distanceTo 4 (some .int) (px_rm 0 0) false [.ref zh, .int (nI g), .int (nI c)] π K := by
  have hG := A.1
  have hZ := A.2.1
  refine px_P.intro (by decide) hZ (by simp [Value.category]) (Nat.le_of_ble_eq_true rfl) rfl ?_
  intro Γ hl hR X Y hnm hs hbel
  subst hl
  have ho := H.o
  have hwl := H.wl
  have hds := H.ds
  have hrow := H.row hg
  have hin1 : vp_in (nI g) 10 := vp_in_nI hg (by decide)
  have hin2 : vp_in (nI c) n := vp_in_nI hc hn
  have e1 : (nI g).toNatClampNeg = g := nI_clamp (by omega)
  have e2 : (nI c).toNatClampNeg = c := nI_clamp (by omega)
  refine pg_iload_n X d_H_distanceTo_0 rfl ?_
  refine pg_if_lt X d_H_distanceTo_1 (fun c1 => ?_) (fun c1 => ?_)
  · simp (disch := omega) only [Int32.lt_iff_toInt_lt, Int32.le_iff_toInt_le, nI_toInt, px_l0, px_l1, px_l2, px_l3, px_l4, px_l5, px_l6, px_l10, px_l11, px_l12, px_l16, px_l30, px_l100, px_l400] at c1
    omega
  refine pg_iload_n X d_H_distanceTo_4 rfl ?_
  refine pg_bipush X (10) d_H_distanceTo_5 (by decide) ?_
  refine pg_icmp_ge X d_H_distanceTo_7 (fun c2 => ?_) (fun c2 => ?_)
  · simp (disch := omega) only [Int32.lt_iff_toInt_lt, Int32.le_iff_toInt_le, nI_toInt, px_l0, px_l1, px_l2, px_l3, px_l4, px_l5, px_l6, px_l10, px_l11, px_l12, px_l16, px_l30, px_l100, px_l400] at c2
    omega
  refine pg_iload_n X d_H_distanceTo_10 rfl ?_
  refine pg_if_lt X d_H_distanceTo_11 (fun c3 => ?_) (fun c3 => ?_)
  · simp (disch := omega) only [Int32.lt_iff_toInt_lt, Int32.le_iff_toInt_le, nI_toInt, px_l0, px_l1, px_l2, px_l3, px_l4, px_l5, px_l6, px_l10, px_l11, px_l12, px_l16, px_l30, px_l100, px_l400] at c3
    omega
  refine pg_iload_n X d_H_distanceTo_14 rfl ?_
  refine pg_aload_n X d_H_distanceTo_15 rfl ?_
  refine pg_getf X (f_H_43 hG) d_H_distanceTo_16 (px_rd_of (by assumption)) rfl ?_
  refine pg_alen X d_H_distanceTo_19 (px_rd_of (by assumption)) ?_
  refine pg_icmp_ge X d_H_distanceTo_20 (fun c4 => ?_) (fun c4 => ?_)
  · simp (disch := omega) only [Int32.lt_iff_toInt_lt, Int32.le_iff_toInt_le, nI_toInt, px_l0, px_l1, px_l2, px_l3, px_l4, px_l5, px_l6, px_l10, px_l11, px_l12, px_l16, px_l30, px_l100, px_l400] at c4
    omega
  refine pg_iconst X (1) d_H_distanceTo_23 (by decide) ?_
  refine pg_goto X d_H_distanceTo_24 ?_
  refine pg_istore3 X d_H_distanceTo_28 ?_
  refine pg_iload_n X d_H_distanceTo_29 rfl ?_
  refine pg_if_eq X d_H_distanceTo_30 (fun c5 => ?_) (fun c5 => ?_)
  · exact absurd c5 (by decide)
  refine pg_aload_n X d_H_distanceTo_33 rfl ?_
  refine pg_getf X (f_H_49 hG) d_H_distanceTo_34 (px_rd_of (by assumption)) rfl ?_
  refine pg_iload_n X d_H_distanceTo_37 rfl ?_
  refine pg_aald X d_H_distanceTo_38 (px_rd_of (by assumption)) rfl (by assumption) ?_
  rw [e1]
  refine pg_iload_n X d_H_distanceTo_39 rfl ?_
  refine pg_iald X d_H_distanceTo_40 (px_rd_of (by assumption)) (by assumption) ?_
  refine pg_goto X d_H_distanceTo_41 ?_
  rw [e2]
  exact pg_iret X Y d_H_distanceTo_45 rfl (by decide) (Nat.zero_le _) (Nat.zero_le _) (k)
theorem t_H_distanceToN (A : GA G) (H : RH zh n h π) {x y : Int32} (hx : x < 0 ∨ y < 0) (k : K (.inl (some (.int (-1)))) π) :
    px_P l G y_H_distanceTo b_H_distanceTo 4 (some .int) (px_rm 0 0) false [.ref zh, .int x, .int y] π K := by
  have hG := A.1
  have hZ := A.2.1
  refine px_P.intro (by decide) hZ (by simp [Value.category]) (Nat.le_of_ble_eq_true rfl) rfl ?_
  intro Γ hl hR X Y hnm hs hbel
  subst hl
  have ho := H.o
  have hwl := H.wl
  have k27 : px_G Γ G (px_Q Γ G false K) false 0 0 27 [some (.ref zh), some (.int x), some (.int y), none] [] π := by
    refine pg_iconst X (0) d_H_distanceTo_27 (by decide) ?_
    refine pg_istore3 X d_H_distanceTo_28 ?_
    refine pg_iload_n X d_H_distanceTo_29 rfl ?_
    refine pg_if_eq X d_H_distanceTo_30 (fun c5 => ?_) (fun c5 => ?_)
    · refine pg_iconst X (-1) d_H_distanceTo_44 (by decide) ?_
      exact pg_iret X Y d_H_distanceTo_45 rfl (by decide) (Nat.zero_le _) (Nat.zero_le _) (k)
    · exact absurd rfl c5
  refine pg_iload_n X d_H_distanceTo_0 rfl ?_
  refine pg_if_lt X d_H_distanceTo_1 (fun c1 => ?_) (fun c1 => ?_)
  · exact k27
  refine pg_iload_n X d_H_distanceTo_4 rfl ?_
  refine pg_bipush X (10) d_H_distanceTo_5 (by decide) ?_
  refine pg_icmp_ge X d_H_distanceTo_7 (fun c2 => ?_) (fun c2 => ?_)
  · exact k27
  refine pg_iload_n X d_H_distanceTo_10 rfl ?_
  refine pg_if_lt X d_H_distanceTo_11 (fun c3 => ?_) (fun c3 => ?_)
  · exact k27
  rcases hx with q | q
  · exact absurd q c1
  · exact absurd q c3
theorem t_H_neighbour (A : GA G) (H : RH zh n h π) (h0 : h 0 0 = nI wd) (h1 : h 0 1 = nI ht) (hwd : wd ≤ 12) (hht : ht ≤ 12) {c d : Nat} (hc : inC wd ht c) (hd : d < 4) (k : K (.inl (some (.int (px_ov (nbr wd ht c d))))) π) :
    px_P l G y_H_neighbour b_H_neighbour 5 (some .int) (px_rm 0 0) false [.ref zh, .int (nI c), .int (nI d)] π K := by
  have hG := A.1
  have hZ := A.2.1
  refine px_P.intro (by decide) hZ (by simp [Value.category]) (Nat.le_of_ble_eq_true rfl) rfl ?_
  intro Γ hl hR X Y hnm hs hbel
  subst hl
  have hc144 : c < 144 := by have := hc.1; have := hc.2; omega
  have ho := H.o
  rw [h0, h1] at ho
  obtain ⟨sx, sy, zx, zy, rx, ry⟩ := A.2.2.1
  have hin : vp_in (nI d) 4 := vp_in_nI hd (by decide)
  have e1 : (nI d).toNatClampNeg = d := nI_clamp (by omega)
  obtain ⟨t1, t2⟩ := nb_t c hc144 d hd
  obtain ⟨x0, x1, x2, x3⟩ := sd_x
  obtain ⟨y0, y1, y2, y3⟩ := sd_y
  have hcx := hc.1
  have hcy := hc.2
  have hno : nbr wd ht c d = none → px_G Γ G (px_Q Γ G false K) false 0 0 49 [some (.ref zh), some (.int (nI c)), some (.int (nI d)), some (.int (nI c - nI c / 12 * 12 + sideX d)), some (.int (nI c / 12 + sideY d))] [] π := by
    intro q
    rw [q] at k
    refine pg_iconst X (-1) d_H_neighbour_49 (by decide) ?_
    refine pg_goto X d_H_neighbour_50 ?_
    exact pg_iret X Y d_H_neighbour_60 rfl (by decide) (Nat.zero_le _) (Nat.zero_le _) (k)
  refine pg_iload_n X d_H_neighbour_0 rfl ?_
  refine pg_bipush X (12) d_H_neighbour_1 (by decide) ?_
  refine pg_irem X d_H_neighbour_3 (by decide) ?_
  refine pg_gets X zx (hG.t (lm_2 (List.mem_of_getElem? (i := 51) rfl))) d_H_neighbour_4 ?_
  refine pg_iload_n X d_H_neighbour_7 rfl ?_
  refine pg_iald X d_H_neighbour_8 (px_rd_r rx) (by assumption) ?_
  rw [e1]
  refine pg_iadd X d_H_neighbour_9 ?_
  refine pg_istore3 X d_H_neighbour_10 ?_
  refine pg_iload_n X d_H_neighbour_11 rfl ?_
  refine pg_bipush X (12) d_H_neighbour_12 (by decide) ?_
  refine pg_idiv X d_H_neighbour_14 (by decide) ?_
  refine pg_gets X zy (hG.t (lm_2 (List.mem_of_getElem? (i := 53) rfl))) d_H_neighbour_15 ?_
  refine pg_iload_n X d_H_neighbour_18 rfl ?_
  refine pg_iald X d_H_neighbour_19 (px_rd_r ry) (by assumption) ?_
  rw [e1]
  refine pg_iadd X d_H_neighbour_20 ?_
  refine pg_istore4 X d_H_neighbour_21 ?_
  refine pg_iload_n X d_H_neighbour_23 rfl ?_
  have hnone : ∀ b : Prop, (nbr wd ht c d ≠ none → ¬ b) → b → nbr wd ht c d = none := fun b h1 h2 => Classical.byContradiction fun q => h1 q h2
  have hiff := nb_iff hc hd
  rw [← t1, ← t2] at hiff
  have hsome := hiff.mp
  have hback := hiff.mpr
  refine pg_if_lt X d_H_neighbour_24 (fun c1 => ?_) (fun c1 => ?_)
  · exact hno (hnone _ (fun q z => by have := hsome q; simp (disch := omega) only [Int32.lt_iff_toInt_lt, Int32.le_iff_toInt_le, nI_toInt, px_l0] at z; omega) c1)
  refine pg_iload_n X d_H_neighbour_27 rfl ?_
  refine pg_aload_n X d_H_neighbour_28 rfl ?_
  refine pg_getf X (f_H_34 hG) d_H_neighbour_29 (px_rd_of (by assumption)) rfl ?_
  refine pg_icmp_ge X d_H_neighbour_32 (fun c2 => ?_) (fun c2 => ?_)
  · exact hno (hnone _ (fun q z => by have := hsome q; simp (disch := omega) only [Int32.lt_iff_toInt_lt, Int32.le_iff_toInt_le, nI_toInt, px_l0] at z; omega) c2)
  refine pg_iload X d_H_neighbour_35 rfl ?_
  refine pg_if_lt X d_H_neighbour_37 (fun c3 => ?_) (fun c3 => ?_)
  · exact hno (hnone _ (fun q z => by have := hsome q; simp (disch := omega) only [Int32.lt_iff_toInt_lt, Int32.le_iff_toInt_le, nI_toInt, px_l0] at z; omega) c3)
  refine pg_iload X d_H_neighbour_40 rfl ?_
  refine pg_aload_n X d_H_neighbour_42 rfl ?_
  refine pg_getf X (f_H_37 hG) d_H_neighbour_43 (px_rd_of (by assumption)) rfl ?_
  refine pg_icmp_lt X d_H_neighbour_46 (fun c4 => ?_) (fun c4 => ?_)
  · simp (disch := omega) only [Int32.lt_iff_toInt_lt, Int32.le_iff_toInt_le, nI_toInt, px_l0, px_l1, px_l2, px_l3, px_l4, px_l5, px_l6, px_l10, px_l11, px_l12, px_l16, px_l30, px_l100, px_l400] at c1 c2 c3 c4
    have hne := hback ⟨by omega, by omega, by omega, by omega⟩
    obtain ⟨o, ho2⟩ : ∃ o, nbr wd ht c d = some o := by
      cases q : nbr wd ht c d with
      | none => exact absurd q hne
      | some o => exact ⟨o, rfl⟩
    rw [ho2] at k
    refine pg_iload X d_H_neighbour_53 rfl ?_
    refine pg_bipush X (12) d_H_neighbour_55 (by decide) ?_
    refine pg_imul X d_H_neighbour_57 ?_
    refine pg_iload_n X d_H_neighbour_58 rfl ?_
    refine pg_iadd X d_H_neighbour_59 ?_
    rw [nb_some hwd hht hc144 hd ho2]
    exact pg_iret X Y d_H_neighbour_60 rfl (by decide) (Nat.zero_le _) (Nat.zero_le _) (k)
  · exact hno (hnone _ (fun q z => by have := hsome q; simp (disch := omega) only [Int32.lt_iff_toInt_lt, Int32.le_iff_toInt_le, nI_toInt, px_l0] at z; omega) c4)
end HOR
