/-! THE CLASS: wall, thing, door -/
section WTD
variable {l : Launch} {G : px_Cg} {π π0 : px_H} {K : Option Value ⊕ String → px_H → Prop} {z n nt nd wd ht : Nat} {h h' w wt : Nat → Nat → Int32} {ta : Nat → Int32}
theorem inC_ab {a b : Nat} (hw : wd ≤ 12) (ha : a < wd) (hb : b < ht) : inC wd ht (12 * b + a) := by unfold inC; omega
def wlB (h w : Nat → Nat → Int32) (nt nd c : Nat) (v : Int32) : Prop := h 1 c = v ∨ (v ≠ 0 ∧ ((∃ g, g < 10 ∧ isG nt nd g ∧ h 2 g = nI c) ∨ 0 < w 1 c))
theorem t_V_wall (A : GA G) (hfl : FL l) (R : RV z n h w wt ta π) (B : HF h wd ht nt nd n) {x y v : Int32} (hv : narrow .boolean (.int v) = .int v)
    (k0 : ∀ a b, a < wd → b < ht → x = nI a → y = nI b → wlB h w nt nd (12 * b + a) v → K (.inl (some (.int 0))) π)
    (k1 : ∀ a b, a < wd → b < ht → x = nI a → y = nI b → ¬ wlB h w nt nd (12 * b + a) v → ∀ h' π1, hN (up2 h 1 (12 * b + a) v) h' → HG h' wd ht nt nd n → SV z n h' w wt ta π π1 → K (.inl (some (.int 1))) π1)
    (kt : (¬ ∃ a b, a < wd ∧ b < ht ∧ x = nI a ∧ y = nI b) → ∀ z', π.1 < z' → K (.inr IOB) (z', π.2)) :
    px_P l G y_V_wall b_V_wall 5 (some .boolean) (px_rt 7 105 1) true [.ref z, .int x, .int y, .int v] π K := by
  have hG := A.1
  have hZ := A.2.1
  refine px_P.intro (by decide) hZ (by simp [Value.category]) (Nat.le_of_ble_eq_true rfl) rfl ?_
  intro Γ hl hR X Y hnm hs hbel
  subst hl
  obtain ⟨b0, b1, b2, b3, b4, b5, b6, b7, b8, b9⟩ := id B
  have ho := R.1
  have hho := R.2.1.o
  have hwo := R.2.2.1.o
  have hwl := R.2.1.wl
  have hcr := R.2.2.1.cr
  refine pg_aload_n X d_V_wall_0 rfl ?_
  refine pg_iload_n X d_V_wall_1 rfl ?_
  refine pg_iload_n X d_V_wall_2 rfl ?_
  refine pc_V (ci := 3) (As := [_, _]) X Y d_V_wall_3 (c_V_45 hG) (i_V_existingCell hG) (v_V_existingCell hG) (fun r h => by rw [hG.2] at h; cases h; rfl) rfl rfl (Nat.le_of_ble_eq_true rfl) (by rw [hR]; exact ⟨by decide, by decide⟩) (by decide) (by decide) (by rw [hR]; first | decide | (dsimp only [px_rm]; omega)) (by rw [hR]; first | decide | (dsimp only [px_rm]; omega)) (px_rd_of (by assumption)) (t_V_existingCell A hfl R b0 b1 b4.2 b5.2 (fun a b ha hb ea eb => ?_) kt)
  have hci := inC_ab (ht := ht) b4.2 ha hb
  have hcl := inC_lt hci
  have hcl2 := inC_144 b4.2 b5.2 hci
  have k0 := k0 a b ha hb ea eb
  have k1 := k1 a b ha hb ea eb
  revert k0 k1 hci hcl hcl2
  generalize 12 * b + a = c
  intro hci hcl hcl2 k0 k1
  have yes : ¬ wlB h w nt nd c v → px_G Γ G (px_Q Γ G true K) false (0 + (px_rt 6 83 1).cells) (0 + (px_rt 6 83 1).slots) 55 [some (.ref z), some (.int x), some (.int y), some (.int v), some (.int (nI c))] [] π := by
    intro q
    refine pg_w ?_
    refine pg_aload_n X d_V_wall_55 rfl ?_
    refine pg_getf X (f_V_19 hG) d_V_wall_56 (px_rd_of (by assumption)) rfl ?_
    refine pg_iload X d_V_wall_59 rfl ?_
    refine pg_iload_n X d_V_wall_61 rfl ?_
    refine pc_V (ci := 0) (As := [_, _]) X Y d_V_wall_62 (c_V_60 hG) (i_H_build hG) (v_H_build hG) (fun r h => by rw [hG.2] at h; cases h; rfl) rfl rfl (Nat.le_of_ble_eq_true rfl) (by rw [hR]; exact ⟨by decide, by decide⟩) (by decide) (by decide) (by rw [hR]; first | decide | (dsimp only [px_rm]; omega)) (by rw [hR]; first | decide | (dsimp only [px_rm]; omega)) (px_rd_of (by assumption)) (t_H_build A R.2.1 B (by omega) hv (fun h' π1 N HG1 R1 O1 => ?_))
    refine pg_iconst X (1) d_V_wall_65 (by decide) ?_
    exact pg_iret X Y d_V_wall_66 rfl (by decide) (by rw [hR]; decide) (by rw [hR]; decide) (k1 q h' π1 N HG1 (R.self.house R1 O1))
  have nay : wlB h w nt nd c v → px_G Γ G (px_Q Γ G true K) false (0 + (px_rt 6 83 1).cells) (0 + (px_rt 6 83 1).slots) 53 [some (.ref z), some (.int x), some (.int y), some (.int v), some (.int (nI c))] [] π := by
    intro q
    refine pg_iconst X (0) d_V_wall_53 (by decide) ?_
    exact pg_iret X Y d_V_wall_54 rfl (by decide) (by rw [hR]; decide) (by rw [hR]; decide) (k0 q)
  refine pg_istore4 X d_V_wall_6 ?_
  refine pg_aload_n X d_V_wall_8 rfl ?_
  refine pg_getf X (f_V_19 hG) d_V_wall_9 (px_rd_of (by assumption)) rfl ?_
  refine pg_getf X (f_V_49 hG) d_V_wall_12 (px_rd_of (by assumption)) rfl ?_
  refine pg_iload X d_V_wall_15 rfl ?_
  refine pg_zaldN X d_V_wall_17 (px_rd_of (by assumption)) (by first | assumption | omega) (by first | assumption | omega) ?_
  refine pg_iload_n X d_V_wall_18 rfl ?_
  refine pg_icmp_ne X d_V_wall_19 (fun c1 => ?_) (fun c1 => ?_)
  · refine pg_iload_n X d_V_wall_24 rfl ?_
    refine pg_if_eq X d_V_wall_25 (fun c2 => ?_) (fun c2 => ?_)
    · exact yes (fun q => q.elim c1 (fun q => q.1 c2))
    refine pg_aload_n X d_V_wall_28 rfl ?_
    refine pg_getf X (f_V_19 hG) d_V_wall_29 (px_rd_of (by assumption)) rfl ?_
    refine pg_iload X d_V_wall_32 rfl ?_
    refine pc_V (ci := 0) (As := [_]) X Y d_V_wall_34 (c_V_53 hG) (i_H_hasGoalIn hG) (v_H_hasGoalIn hG) (fun r h => by rw [hG.2] at h; cases h; rfl) rfl rfl (Nat.le_of_ble_eq_true rfl) (by rw [hR]; exact ⟨by decide, by decide⟩) (by decide) (by decide) (by rw [hR]; first | decide | (dsimp only [px_rm]; omega)) (by rw [hR]; first | decide | (dsimp only [px_rm]; omega)) (px_rd_of (by assumption)) (t_H_hasGoalIn A R.2.1 b2 b3 b6 b7 (fun hy => ?_) (fun hy => ?_))
    · refine pg_if_ne X d_V_wall_37 (fun c3 => ?_) (fun c3 => ?_)
      · exact nay (Or.inr ⟨c2, Or.inl hy⟩)
      · exact absurd c3 (by decide)
    · refine pg_if_ne X d_V_wall_37 (fun c3 => ?_) (fun c3 => ?_)
      · exact absurd rfl c3
      refine pg_aload_n X d_V_wall_40 rfl ?_
      refine pg_getf X (f_V_28 hG) d_V_wall_41 (px_rd_of (by assumption)) rfl ?_
      refine pg_getf X (f_V_57 hG) d_V_wall_44 (px_rd_of (by assumption)) rfl ?_
      refine pg_iload X d_V_wall_47 rfl ?_
      refine pg_ialdN X d_V_wall_49 (px_rd_of (by assumption)) (by first | assumption | omega) (by first | assumption | omega) ?_
      refine pg_if_le X d_V_wall_50 (fun c4 => ?_) (fun c4 => ?_)
      · exact yes (fun q => q.elim c1 (fun q => q.2.elim hy (fun q => k2_nle q c4)))
      · exact nay (Or.inr ⟨c2, Or.inr (k2_lt c4)⟩)
  · refine pg_iconst X (0) d_V_wall_22 (by decide) ?_
    exact pg_iret X Y d_V_wall_23 rfl (by decide) (by rw [hR]; decide) (by rw [hR]; decide) (k0 (Or.inl c1))
theorem t_V_thing (A : GA G) (hfl : FL l) (R : RV z n h w wt ta π) (B : HG h wd ht nt nd n) {x y i s : Int32}
    (k0 : ∀ a b, a < wd → b < ht → x = nI a → y = nI b → 1 ≤ i ∧ i ≤ 100 ∧ 1 ≤ s ∧ s ≤ 30 → nt < 6 → h 1 (12 * b + a) ≠ 0 → K (.inl (some (.int (-1)))) π)
    (k1 : ∀ a b, a < wd → b < ht → x = nI a → y = nI b → 1 ≤ i ∧ i ≤ 100 ∧ 1 ≤ s ∧ s ≤ 30 → nt < 6 → h 1 (12 * b + a) = 0 → ∀ h' π1, hN (thH h nt (12 * b + a) i s) h' → HG h' wd ht (nt + 1) nd n → SV z n h' w wt ta π π1 → K (.inl (some (.int (nI nt)))) π1)
    (kt : (¬ ∃ a b, a < wd ∧ b < ht ∧ x = nI a ∧ y = nI b) → ∀ z', π.1 < z' → K (.inr IOB) (z', π.2))
    (kt2 : (∃ a b, a < wd ∧ b < ht ∧ x = nI a ∧ y = nI b) → ¬ (1 ≤ i ∧ i ≤ 100 ∧ 1 ≤ s ∧ s ≤ 30) → ∀ z', π.1 < z' → K (.inr IAE) (z', π.2))
    (kt3 : (∃ a b, a < wd ∧ b < ht ∧ x = nI a ∧ y = nI b) → (1 ≤ i ∧ i ≤ 100 ∧ 1 ≤ s ∧ s ≤ 30) → ¬ nt < 6 → ∀ z', π.1 < z' → K (.inr ISE) (z', π.2)) :
    px_P l G y_V_thing b_V_thing 6 (some .int) (px_rt 7 105 2) true [.ref z, .int x, .int y, .int i, .int s] π K := by
  have hG := A.1
  have hZ := A.2.1
  refine px_P.intro (by decide) hZ (by simp [Value.category]) (Nat.le_of_ble_eq_true rfl) rfl ?_
  intro Γ hl hR X Y hnm hs hbel
  subst hl
  obtain ⟨b0, b1, b2, b3, b4, b5, b6, b7, b8, b9⟩ := id B.1
  have ho := R.1
  have hho := R.2.1.o
  have hwl := R.2.1.wl
  rw [b2] at hho
  refine pg_aload_n X d_V_thing_0 rfl ?_
  refine pg_iload_n X d_V_thing_1 rfl ?_
  refine pg_iload_n X d_V_thing_2 rfl ?_
  refine pc_V (ci := 3) (As := [_, _]) X Y d_V_thing_3 (c_V_45 hG) (i_V_existingCell hG) (v_V_existingCell hG) (fun r h => by rw [hG.2] at h; cases h; rfl) rfl rfl (Nat.le_of_ble_eq_true rfl) (by rw [hR]; exact ⟨by decide, by decide⟩) (by decide) (by decide) (by rw [hR]; first | decide | (dsimp only [px_rm]; omega)) (by rw [hR]; first | decide | (dsimp only [px_rm]; omega)) (px_rd_of (by assumption)) (t_V_existingCell A hfl R b0 b1 b4.2 b5.2 (fun a b ha hb ea eb => ?_) kt)
  have hci := inC_ab (ht := ht) b4.2 ha hb
  have hcl := inC_lt hci
  have hcl2 := inC_144 b4.2 b5.2 hci
  have k0 := k0 a b ha hb ea eb
  have k1 := k1 a b ha hb ea eb
  have hex : ∃ a b, a < wd ∧ b < ht ∧ x = nI a ∧ y = nI b := ⟨a, b, ha, hb, ea, eb⟩
  revert k0 k1 hci hcl hcl2
  generalize 12 * b + a = c
  intro hci hcl hcl2 k0 k1
  have bad : ¬ (1 ≤ i ∧ i ≤ 100 ∧ 1 ≤ s ∧ s ≤ 30) → px_G Γ G (px_Q Γ G true K) false (0 + (px_rt 6 83 1).cells) (0 + (px_rt 6 83 1).slots) 32 [some (.ref z), some (.int x), some (.int y), some (.int i), some (.int s), some (.int (nI c))] [] π := by
    intro q
    exact pt_V X Y A hfl th_IAE d_V_thing_32 d_V_thing_35 d_V_thing_36 d_V_thing_38 d_V_thing_41 (lm_2 (List.mem_of_getElem? (i := 202) rfl)) (lm_2 (List.mem_of_getElem? (i := 203) rfl)) (lm_1 (List.mem_of_getElem? (i := 12) rfl)) (lm_2 (List.mem_of_getElem? (i := 211) rfl)) (by decide +kernel) (by rw [hR]; decide) (by rw [hR]; decide) (by rw [hR]; decide) (by rw [hR]; decide) hs hbel (kt2 hex q)
  refine pg_istore5 X d_V_thing_6 ?_
  refine pg_iload_n X d_V_thing_8 rfl ?_
  refine pg_iconst X (1) d_V_thing_9 (by decide) ?_
  refine pg_icmp_lt X d_V_thing_10 (fun c1 => ?_) (fun c1 => ?_)
  · exact bad (fun q => k2_nlt q.1 c1)
  refine pg_iload_n X d_V_thing_13 rfl ?_
  refine pg_bipush X (100) d_V_thing_14 (by decide) ?_
  refine pg_icmp_gt X d_V_thing_16 (fun c2 => ?_) (fun c2 => ?_)
  · exact bad (fun q => k2_nle c2 q.2.1)
  refine pg_iload X d_V_thing_19 rfl ?_
  refine pg_iconst X (1) d_V_thing_21 (by decide) ?_
  refine pg_icmp_lt X d_V_thing_22 (fun c3 => ?_) (fun c3 => ?_)
  · exact bad (fun q => k2_nlt q.2.2.1 c3)
  refine pg_iload X d_V_thing_25 rfl ?_
  refine pg_bipush X (30) d_V_thing_27 (by decide) ?_
  refine pg_icmp_le X d_V_thing_29 (fun c4 => ?_) (fun c4 => ?_)
  · have ok : 1 ≤ i ∧ i ≤ 100 ∧ 1 ≤ s ∧ s ≤ 30 := ⟨k2_le c1, k2_le c2, k2_le c3, c4⟩
    refine pg_aload_n X d_V_thing_42 rfl ?_
    refine pg_getf X (f_V_19 hG) d_V_thing_43 (px_rd_of (by assumption)) rfl ?_
    refine pg_getf X (f_V_71 hG) d_V_thing_46 (px_rd_of (by assumption)) rfl ?_
    refine pg_bipush X (6) d_V_thing_49 (by decide) ?_
    refine pg_icmp_lt X d_V_thing_51 (fun c5 => ?_) (fun c5 => ?_)
    · simp (disch := omega) only [Int32.lt_iff_toInt_lt, Int32.le_iff_toInt_le, nI_toInt, px_l0, px_l1, px_l2, px_l3, px_l4, px_l5, px_l6, px_l10, px_l11, px_l12, px_l16, px_l30, px_l100, px_l400] at c5
      have h6 : nt < 6 := by omega
      refine pg_aload_n X d_V_thing_64 rfl ?_
      refine pg_getf X (f_V_19 hG) d_V_thing_65 (px_rd_of (by assumption)) rfl ?_
      refine pg_getf X (f_V_49 hG) d_V_thing_68 (px_rd_of (by assumption)) rfl ?_
      refine pg_iload X d_V_thing_71 rfl ?_
      refine pg_zaldN X d_V_thing_73 (px_rd_of (by assumption)) (by first | assumption | omega) (by first | assumption | omega) ?_
      refine pg_if_eq X d_V_thing_74 (fun c6 => ?_) (fun c6 => ?_)
      · refine pg_w ?_
        refine pg_aload_n X d_V_thing_81 rfl ?_
        refine pg_getf X (f_V_19 hG) d_V_thing_82 (px_rd_of (by assumption)) rfl ?_
        refine pg_iload X d_V_thing_85 rfl ?_
        refine pg_iload_n X d_V_thing_87 rfl ?_
        refine pg_iload X d_V_thing_88 rfl ?_
        refine pc_V (ci := 0) (As := [_, _, _]) X Y d_V_thing_90 (c_V_80 hG) (i_H_addThing hG) (v_H_addThing hG) (fun r h => by rw [hG.2] at h; cases h; rfl) rfl rfl (Nat.le_of_ble_eq_true rfl) (by rw [hR]; exact ⟨by decide, by decide⟩) (by decide) (by decide) (by rw [hR]; first | decide | (dsimp only [px_rm]; omega)) (by rw [hR]; first | decide | (dsimp only [px_rm]; omega)) (px_rd_of (by assumption)) (t_H_addThing A R.2.1 B h6 hci (fun h' π1 N HG1 R1 O1 => ?_))
        exact pg_iret X Y d_V_thing_93 rfl (by decide) (by rw [hR]; decide) (by rw [hR]; decide) (k1 ok h6 c6 h' π1 N HG1 (R.self.house R1 O1))
      · refine pg_iconst X (-1) d_V_thing_77 (by decide) ?_
        refine pg_goto X d_V_thing_78 ?_
        refine pg_w ?_
        exact pg_iret X Y d_V_thing_93 rfl (by decide) (by rw [hR]; decide) (by rw [hR]; decide) (k0 ok h6 c6)
    · simp (disch := omega) only [Int32.lt_iff_toInt_lt, Int32.le_iff_toInt_le, nI_toInt, px_l0, px_l1, px_l2, px_l3, px_l4, px_l5, px_l6, px_l10, px_l11, px_l12, px_l16, px_l30, px_l100, px_l400] at c5
      exact pt_V X Y A hfl th_ISE d_V_thing_54 d_V_thing_57 d_V_thing_58 d_V_thing_60 d_V_thing_63 (lm_2 (List.mem_of_getElem? (i := 218) rfl)) (lm_2 (List.mem_of_getElem? (i := 219) rfl)) (lm_1 (List.mem_of_getElem? (i := 13) rfl)) (lm_2 (List.mem_of_getElem? (i := 227) rfl)) (by decide +kernel) (by rw [hR]; decide) (by rw [hR]; decide) (by rw [hR]; decide) (by rw [hR]; decide) hs hbel (kt3 hex ok (by omega))
  · exact bad (fun q => c4 q.2.2.2)
theorem t_V_door (A : GA G) (hfl : FL l) (R : RV z n h w wt ta π) (B : HG h wd ht nt nd n) {x y : Int32}
    (k0 : ∀ a b, a < wd → b < ht → x = nI a → y = nI b → nd < 4 → h 1 (12 * b + a) ≠ 0 → K (.inl (some (.int (-1)))) π)
    (k1 : ∀ a b, a < wd → b < ht → x = nI a → y = nI b → nd < 4 → h 1 (12 * b + a) = 0 → ∀ h' π1, hN (drH h nd (12 * b + a)) h' → HG h' wd ht nt (nd + 1) n → SV z n h' w wt ta π π1 → K (.inl (some (.int (nI nd)))) π1)
    (kt : (¬ ∃ a b, a < wd ∧ b < ht ∧ x = nI a ∧ y = nI b) → ∀ z', π.1 < z' → K (.inr IOB) (z', π.2))
    (kt3 : (∃ a b, a < wd ∧ b < ht ∧ x = nI a ∧ y = nI b) → ¬ nd < 4 → ∀ z', π.1 < z' → K (.inr ISE) (z', π.2)) :
    px_P l G y_V_door b_V_door 4 (some .int) (px_rt 7 105 2) true [.ref z, .int x, .int y] π K := by
  have hG := A.1
  have hZ := A.2.1
  refine px_P.intro (by decide) hZ (by simp [Value.category]) (Nat.le_of_ble_eq_true rfl) rfl ?_
  intro Γ hl hR X Y hnm hs hbel
  subst hl
  obtain ⟨b0, b1, b2, b3, b4, b5, b6, b7, b8, b9⟩ := id B.1
  have ho := R.1
  have hho := R.2.1.o
  have hwl := R.2.1.wl
  rw [b3] at hho
  refine pg_aload_n X d_V_door_0 rfl ?_
  refine pg_iload_n X d_V_door_1 rfl ?_
  refine pg_iload_n X d_V_door_2 rfl ?_
  refine pc_V (ci := 3) (As := [_, _]) X Y d_V_door_3 (c_V_45 hG) (i_V_existingCell hG) (v_V_existingCell hG) (fun r h => by rw [hG.2] at h; cases h; rfl) rfl rfl (Nat.le_of_ble_eq_true rfl) (by rw [hR]; exact ⟨by decide, by decide⟩) (by decide) (by decide) (by rw [hR]; first | decide | (dsimp only [px_rm]; omega)) (by rw [hR]; first | decide | (dsimp only [px_rm]; omega)) (px_rd_of (by assumption)) (t_V_existingCell A hfl R b0 b1 b4.2 b5.2 (fun a b ha hb ea eb => ?_) kt)
  have hci := inC_ab (ht := ht) b4.2 ha hb
  have hcl := inC_lt hci
  have hcl2 := inC_144 b4.2 b5.2 hci
  have k0 := k0 a b ha hb ea eb
  have k1 := k1 a b ha hb ea eb
  have hex : ∃ a b, a < wd ∧ b < ht ∧ x = nI a ∧ y = nI b := ⟨a, b, ha, hb, ea, eb⟩
  revert k0 k1 hci hcl hcl2
  generalize 12 * b + a = c
  intro hci hcl hcl2 k0 k1
  refine pg_istore3 X d_V_door_6 ?_
  refine pg_aload_n X d_V_door_7 rfl ?_
  refine pg_getf X (f_V_19 hG) d_V_door_8 (px_rd_of (by assumption)) rfl ?_
  refine pg_getf X (f_V_83 hG) d_V_door_11 (px_rd_of (by assumption)) rfl ?_
  refine pg_iconst X (4) d_V_door_14 (by decide) ?_
  refine pg_icmp_lt X d_V_door_15 (fun c5 => ?_) (fun c5 => ?_)
  · simp (disch := omega) only [Int32.lt_iff_toInt_lt, Int32.le_iff_toInt_le, nI_toInt, px_l0, px_l1, px_l2, px_l3, px_l4, px_l5, px_l6, px_l10, px_l11, px_l12, px_l16, px_l30, px_l100, px_l400] at c5
    have h6 : nd < 4 := by omega
    refine pg_aload_n X d_V_door_28 rfl ?_
    refine pg_getf X (f_V_19 hG) d_V_door_29 (px_rd_of (by assumption)) rfl ?_
    refine pg_getf X (f_V_49 hG) d_V_door_32 (px_rd_of (by assumption)) rfl ?_
    refine pg_iload_n X d_V_door_35 rfl ?_
    refine pg_zaldN X d_V_door_36 (px_rd_of (by assumption)) (by first | assumption | omega) (by first | assumption | omega) ?_
    refine pg_if_eq X d_V_door_37 (fun c6 => ?_) (fun c6 => ?_)
    · refine pg_w ?_
      refine pg_aload_n X d_V_door_44 rfl ?_
      refine pg_getf X (f_V_19 hG) d_V_door_45 (px_rd_of (by assumption)) rfl ?_
      refine pg_iload_n X d_V_door_48 rfl ?_
      refine pc_V (ci := 0) (As := [_]) X Y d_V_door_49 (c_V_88 hG) (i_H_addDoor hG) (v_H_addDoor hG) (fun r h => by rw [hG.2] at h; cases h; rfl) rfl rfl (Nat.le_of_ble_eq_true rfl) (by rw [hR]; exact ⟨by decide, by decide⟩) (by decide) (by decide) (by rw [hR]; first | decide | (dsimp only [px_rm]; omega)) (by rw [hR]; first | decide | (dsimp only [px_rm]; omega)) (px_rd_of (by assumption)) (t_H_addDoor A R.2.1 B h6 hci (fun h' π1 N HG1 R1 O1 => ?_))
      exact pg_iret X Y d_V_door_52 rfl (by decide) (by rw [hR]; decide) (by rw [hR]; decide) (k1 h6 c6 h' π1 N HG1 (R.self.house R1 O1))
    · refine pg_iconst X (-1) d_V_door_40 (by decide) ?_
      refine pg_goto X d_V_door_41 ?_
      refine pg_w ?_
      exact pg_iret X Y d_V_door_52 rfl (by decide) (by rw [hR]; decide) (by rw [hR]; decide) (k0 h6 c6)
  · simp (disch := omega) only [Int32.lt_iff_toInt_lt, Int32.le_iff_toInt_le, nI_toInt, px_l0, px_l1, px_l2, px_l3, px_l4, px_l5, px_l6, px_l10, px_l11, px_l12, px_l16, px_l30, px_l100, px_l400] at c5
    exact pt_V X Y A hfl th_ISE d_V_door_18 d_V_door_21 d_V_door_22 d_V_door_24 d_V_door_27 (lm_2 (List.mem_of_getElem? (i := 218) rfl)) (lm_2 (List.mem_of_getElem? (i := 219) rfl)) (lm_1 (List.mem_of_getElem? (i := 13) rfl)) (lm_3 (List.mem_of_getElem? (i := 5) rfl)) (by decide +kernel) (by rw [hR]; decide) (by rw [hR]; decide) (by rw [hR]; decide) (by rw [hR]; decide) hs hbel (kt3 hex (by omega))
end WTD
