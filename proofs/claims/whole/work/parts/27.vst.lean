/-! THE CLASS: its cells, its helpers -/
abbrev px_rt (f lo c : Nat) : Room := { frames := f, cells := c, slots := 6 * c, locals := lo }
abbrev IOB : String := "java/lang/IndexOutOfBoundsException"
abbrev IAE : String := "java/lang/IllegalArgumentException"
abbrev ISE : String := "java/lang/IllegalStateException"
/-- the class's 63 cells from z on: itself, the house, the walk, the trial, the tally -/
def RV (z n : Nat) (h w wt : Nat → Nat → Int32) (ta : Nat → Int32) (π : px_H) : Prop := π.2 z = some (.inr (3, [.ref (z + 1), .ref (z + 18), .ref (z + 40), .ref (z + 62)])) ∧ RH (z + 1) n h π ∧ RW (z + 18) (z + 1) n w π ∧ RW (z + 40) (z + 1) n wt π ∧ π.2 (z + 62) = some (.inl (.int, 6, .inl ta))
def SV (z n : Nat) (h w wt : Nat → Nat → Int32) (ta : Nat → Int32) (π0 π : px_H) : Prop := RV z n h w wt ta π ∧ px_off z 63 π0 π
section VST
variable {l : Launch} {G : px_Cg} {π π0 π1 : px_H} {K : Option Value ⊕ String → px_H → Prop} {z n nt nd wd ht tl : Nat} {h w wt w' : Nat → Nat → Int32} {ta : Nat → Int32}
theorem SV.sw (S : SV z n h w wt ta π0 π) : SW (z + 18) (z + 1) n w h π π := ⟨S.1.2.2.1, S.1.2.1, by omega, px_off.rf⟩
theorem SV.st (S : SV z n h w wt ta π0 π) : SW (z + 40) (z + 1) n wt h π π := ⟨S.1.2.2.2.1, S.1.2.1, by omega, px_off.rf⟩
theorem SV.walk (S : SV z n h w wt ta π0 π) (S1 : SW (z + 18) (z + 1) n w' h π π1) : SV z n h w' wt ta π0 π1 := by
  obtain ⟨⟨r1, r2, r3, r4, r5⟩, O⟩ := S
  obtain ⟨s1, s2, s3, s4⟩ := S1
  exact ⟨⟨(s4.2 z (by omega)).trans r1, s2, s1, r4.off s4 (by omega), (s4.2 _ (by omega)).trans r5⟩, O.tr (s4.mono (by omega) (by omega))⟩
theorem SV.trial (S : SV z n h w wt ta π0 π) (S1 : SW (z + 40) (z + 1) n w' h π π1) : SV z n h w w' ta π0 π1 := by
  obtain ⟨⟨r1, r2, r3, r4, r5⟩, O⟩ := S
  obtain ⟨s1, s2, s3, s4⟩ := S1
  exact ⟨⟨(s4.2 z (by omega)).trans r1, s2, r3.off s4 (by omega), s1, (s4.2 _ (by omega)).trans r5⟩, O.tr (s4.mono (by omega) (by omega))⟩
theorem RV.self (R : RV z n h w wt ta π) : SV z n h w wt ta π π := ⟨R, px_off.rf⟩
theorem RV.zz (R : RV z n h w wt ta π) {z' : Nat} : RV z n h w wt ta (z', π.2) := R
theorem px_m31 {a b wd ht : Nat} (hw : wd ≤ 12) (hh : ht ≤ 12) (ha : a < wd) (hb : b < ht) : nI b * 12 + nI a = nI (12 * b + a) := by
  have e : (12 : Int32) = nI 12 := rfl
  rw [e, pk_mul, nI_add, Nat.mul_comm]
theorem t_V_existingCell (A : GA G) (hfl : FL l) (R : RV z n h w wt ta π) (h0 : h 0 0 = nI wd) (h1 : h 0 1 = nI ht) (hw : wd ≤ 12) (hh : ht ≤ 12) {x y : Int32}
    (k : ∀ a b, a < wd → b < ht → x = nI a → y = nI b → K (.inl (some (.int (nI (12 * b + a))))) π) (kt : (¬ ∃ a b, a < wd ∧ b < ht ∧ x = nI a ∧ y = nI b) → ∀ z', π.1 < z' → K (.inr IOB) (z', π.2)) :
    px_P l G y_V_existingCell b_V_existingCell 3 (some .int) (px_rt 6 83 1) false [.ref z, .int x, .int y] π K := by
  have hG := A.1
  have hZ := A.2.1
  refine px_P.intro (by decide) hZ (by simp [Value.category]) (Nat.le_of_ble_eq_true rfl) rfl ?_
  intro Γ hl hR X Y hnm hs hbel
  subst hl
  have ho := R.1
  have hh0 := R.2.1.o
  rw [h0, h1] at hh0
  have bad : (¬ ∃ a b, a < wd ∧ b < ht ∧ x = nI a ∧ y = nI b) → px_G Γ G (px_Q Γ G false K) false 0 0 30 [some (.ref z), some (.int x), some (.int y)] [] π := by
    intro q
    exact pt_V X Y A hfl th_IOB d_V_existingCell_30 d_V_existingCell_33 d_V_existingCell_34 d_V_existingCell_36 d_V_existingCell_39 (lm_2 (List.mem_of_getElem? (i := 112) rfl)) (lm_2 (List.mem_of_getElem? (i := 113) rfl)) (lm_1 (List.mem_of_getElem? (i := 11) rfl)) (lm_2 (List.mem_of_getElem? (i := 153) rfl)) (by decide +kernel) (by rw [hR]; decide) (by rw [hR]; decide) (by rw [hR]; decide) (by rw [hR]; decide) hs hbel (kt q)
  refine pg_iload_n X d_V_existingCell_0 rfl ?_
  refine pg_if_lt X d_V_existingCell_1 (fun c1 => ?_) (fun c1 => ?_)
  · refine bad (fun ⟨a, b, ha, hb, ea, eb⟩ => ?_)
    rw [ea] at c1
    exact nI_pos (by omega) c1
  refine pg_iload_n X d_V_existingCell_4 rfl ?_
  refine pg_aload_n X d_V_existingCell_5 rfl ?_
  refine pg_getf X (f_V_19 hG) d_V_existingCell_6 (px_rd_of (by assumption)) rfl ?_
  refine pg_getf X (f_V_196 hG) d_V_existingCell_9 (px_rd_of (by assumption)) rfl ?_
  refine pg_icmp_ge X d_V_existingCell_12 (fun c2 => ?_) (fun c2 => ?_)
  · refine bad (fun ⟨a, b, ha, hb, ea, eb⟩ => ?_)
    rw [ea] at c2
    exact nI_ge ha (by omega) c2
  refine pg_iload_n X d_V_existingCell_15 rfl ?_
  refine pg_if_lt X d_V_existingCell_16 (fun c3 => ?_) (fun c3 => ?_)
  · refine bad (fun ⟨a, b, ha, hb, ea, eb⟩ => ?_)
    rw [eb] at c3
    exact nI_pos (by omega) c3
  refine pg_iload_n X d_V_existingCell_19 rfl ?_
  refine pg_aload_n X d_V_existingCell_20 rfl ?_
  refine pg_getf X (f_V_19 hG) d_V_existingCell_21 (px_rd_of (by assumption)) rfl ?_
  refine pg_getf X (f_V_199 hG) d_V_existingCell_24 (px_rd_of (by assumption)) rfl ?_
  refine pg_icmp_lt X d_V_existingCell_27 (fun c4 => ?_) (fun c4 => ?_)
  · obtain ⟨a, ha, ea⟩ : ∃ a, a < wd ∧ x = nI a := by
      rcases pk_ix x (n := wd) (by omega) with q | q | q
      · exact absurd q c1
      · exact absurd q c2
      · exact q
    obtain ⟨b, hb, eb⟩ : ∃ b, b < ht ∧ y = nI b := by
      rcases pk_ix y (n := ht) (by omega) with q | q | q
      · exact absurd q c3
      · exact absurd c4 (k2_nlt q)
      · exact q
    have kx := k a b ha hb ea eb
    clear k
    subst ea
    subst eb
    refine pg_iload_n X d_V_existingCell_40 rfl ?_
    refine pg_bipush X (12) d_V_existingCell_41 (by decide) ?_
    refine pg_imul X d_V_existingCell_43 ?_
    refine pg_iload_n X d_V_existingCell_44 rfl ?_
    refine pg_iadd X d_V_existingCell_45 ?_
    rw [px_m31 hw hh ha hb]
    exact pg_iret X Y d_V_existingCell_46 rfl (by decide) (Nat.zero_le _) (Nat.zero_le _) (kx)
  · refine bad (fun ⟨a, b, ha, hb, ea, eb⟩ => ?_)
    rw [eb] at c4
    exact c4 (nI_lt hb (by omega))
theorem t_V_existingThing (A : GA G) (hfl : FL l) (R : RV z n h w wt ta π) (h3 : h 0 3 = nI nt) (ht : nt ≤ 6) {x : Int32}
    (k : ∀ t, t < nt → x = nI t → K (.inl (some (.int (nI t)))) π) (kt : (¬ ∃ t, t < nt ∧ x = nI t) → ∀ z', π.1 < z' → K (.inr IOB) (z', π.2)) :
    px_P l G y_V_existingThing b_V_existingThing 2 (some .int) (px_rt 6 83 1) false [.ref z, .int x] π K := by
  have hG := A.1
  have hZ := A.2.1
  refine px_P.intro (by decide) hZ (by simp [Value.category]) (Nat.le_of_ble_eq_true rfl) rfl ?_
  intro Γ hl hR X Y hnm hs hbel
  subst hl
  have ho := R.1
  have hh0 := R.2.1.o
  rw [h3] at hh0
  have bad : (¬ ∃ t, t < nt ∧ x = nI t) → px_G Γ G (px_Q Γ G false K) false 0 0 15 [some (.ref z), some (.int x)] [] π := by
    intro q
    exact pt_V X Y A hfl th_IOB d_V_existingThing_15 d_V_existingThing_18 d_V_existingThing_19 d_V_existingThing_21 d_V_existingThing_24 (lm_2 (List.mem_of_getElem? (i := 112) rfl)) (lm_2 (List.mem_of_getElem? (i := 113) rfl)) (lm_1 (List.mem_of_getElem? (i := 11) rfl)) (lm_3 (List.mem_of_getElem? (i := 109) rfl)) (by decide +kernel) (by rw [hR]; decide) (by rw [hR]; decide) (by rw [hR]; decide) (by rw [hR]; decide) hs hbel (kt q)
  refine pg_iload_n X d_V_existingThing_0 rfl ?_
  refine pg_if_lt X d_V_existingThing_1 (fun c1 => ?_) (fun c1 => ?_)
  · refine bad (fun ⟨t, h1, h2⟩ => ?_)
    rw [h2] at c1
    exact nI_pos (by omega) c1
  refine pg_iload_n X d_V_existingThing_4 rfl ?_
  refine pg_aload_n X d_V_existingThing_5 rfl ?_
  refine pg_getf X (f_V_19 hG) d_V_existingThing_6 (px_rd_of (by assumption)) rfl ?_
  refine pg_getf X (f_V_71 hG) d_V_existingThing_9 (px_rd_of (by assumption)) rfl ?_
  refine pg_icmp_lt X d_V_existingThing_12 (fun c2 => ?_) (fun c2 => ?_)
  · obtain ⟨t, h1, h2⟩ : ∃ t, t < nt ∧ x = nI t := by
      rcases pk_ix x (n := nt) (by omega) with q | q | q
      · exact absurd q c1
      · exact absurd c2 (k2_nlt q)
      · exact q
    have kx := k t h1 h2
    clear k
    subst h2
    refine pg_iload_n X d_V_existingThing_25 rfl ?_
    exact pg_iret X Y d_V_existingThing_26 rfl (by decide) (Nat.zero_le _) (Nat.zero_le _) (kx)
  · refine bad (fun ⟨t, h1, h2⟩ => ?_)
    rw [h2] at c2
    exact c2 (nI_lt h1 (by omega))
theorem t_V_existingDoor (A : GA G) (hfl : FL l) (R : RV z n h w wt ta π) (h4 : h 0 4 = nI nd) (hd : nd ≤ 4) {x : Int32}
    (k : ∀ d, d < nd → x = nI d → K (.inl (some (.int (nI (6 + d))))) π) (kt : (¬ ∃ d, d < nd ∧ x = nI d) → ∀ z', π.1 < z' → K (.inr IOB) (z', π.2)) :
    px_P l G y_V_existingDoor b_V_existingDoor 2 (some .int) (px_rt 6 83 1) false [.ref z, .int x] π K := by
  have hG := A.1
  have hZ := A.2.1
  refine px_P.intro (by decide) hZ (by simp [Value.category]) (Nat.le_of_ble_eq_true rfl) rfl ?_
  intro Γ hl hR X Y hnm hs hbel
  subst hl
  have ho := R.1
  have hh0 := R.2.1.o
  rw [h4] at hh0
  have bad : (¬ ∃ t, t < nd ∧ x = nI t) → px_G Γ G (px_Q Γ G false K) false 0 0 15 [some (.ref z), some (.int x)] [] π := by
    intro q
    exact pt_V X Y A hfl th_IOB d_V_existingDoor_15 d_V_existingDoor_18 d_V_existingDoor_19 d_V_existingDoor_21 d_V_existingDoor_24 (lm_2 (List.mem_of_getElem? (i := 112) rfl)) (lm_2 (List.mem_of_getElem? (i := 113) rfl)) (lm_1 (List.mem_of_getElem? (i := 11) rfl)) (lm_3 (List.mem_of_getElem? (i := 37) rfl)) (by decide +kernel) (by rw [hR]; decide) (by rw [hR]; decide) (by rw [hR]; decide) (by rw [hR]; decide) hs hbel (kt q)
  refine pg_iload_n X d_V_existingDoor_0 rfl ?_
  refine pg_if_lt X d_V_existingDoor_1 (fun c1 => ?_) (fun c1 => ?_)
  · refine bad (fun ⟨t, h1, h2⟩ => ?_)
    rw [h2] at c1
    exact nI_pos (by omega) c1
  refine pg_iload_n X d_V_existingDoor_4 rfl ?_
  refine pg_aload_n X d_V_existingDoor_5 rfl ?_
  refine pg_getf X (f_V_19 hG) d_V_existingDoor_6 (px_rd_of (by assumption)) rfl ?_
  refine pg_getf X (f_V_83 hG) d_V_existingDoor_9 (px_rd_of (by assumption)) rfl ?_
  refine pg_icmp_lt X d_V_existingDoor_12 (fun c2 => ?_) (fun c2 => ?_)
  · obtain ⟨t, h1, h2⟩ : ∃ t, t < nd ∧ x = nI t := by
      rcases pk_ix x (n := nd) (by omega) with q | q | q
      · exact absurd q c1
      · exact absurd c2 (k2_nlt q)
      · exact q
    have kx := k t h1 h2
    clear k
    subst h2
    have e6 : (6 : Int32) + nI t = nI (6 + t) := nI_add 6 t
    refine pg_bipush X (6) d_V_existingDoor_25 (by decide) ?_
    refine pg_iload_n X d_V_existingDoor_27 rfl ?_
    refine pg_iadd X d_V_existingDoor_28 ?_
    rw [e6]
    exact pg_iret X Y d_V_existingDoor_29 rfl (by decide) (Nat.zero_le _) (Nat.zero_le _) (kx)
  · refine bad (fun ⟨t, h1, h2⟩ => ?_)
    rw [h2] at c2
    exact c2 (nI_lt h1 (by omega))
theorem t_V_existingVisitor (A : GA G) (hfl : FL l) (R : RV z n h w wt ta π) (h0 : w 0 0 = nI tl) (ht : tl ≤ 16) {x : Int32}
    (k : ∀ i, i < tl → x = nI i → K (.inl (some (.ref (z + 18 + 6 + i)))) π) (kt : (¬ ∃ i, i < tl ∧ x = nI i) → ∀ z', π.1 < z' → K (.inr IOB) (z', π.2)) :
    px_P l G y_V_existingVisitor b_V_existingVisitor 2 (some (.object "VisitorSteps$Visitor")) (px_rt 6 83 1) false [.ref z, .int x] π K := by
  have hG := A.1
  have hZ := A.2.1
  refine px_P.intro (by decide) hZ (by simp [Value.category]) (Nat.le_of_ble_eq_true rfl) rfl ?_
  intro Γ hl hR X Y hnm hs hbel
  subst hl
  have ho := R.1
  have hh0 := R.2.2.1.o
  have hvs := R.2.2.1.vs
  rw [h0] at hh0
  have bad : (¬ ∃ t, t < tl ∧ x = nI t) → px_G Γ G (px_Q Γ G false K) false 0 0 15 [some (.ref z), some (.int x)] [] π := by
    intro q
    exact pt_V X Y A hfl th_IOB d_V_existingVisitor_15 d_V_existingVisitor_18 d_V_existingVisitor_19 d_V_existingVisitor_21 d_V_existingVisitor_24 (lm_2 (List.mem_of_getElem? (i := 112) rfl)) (lm_2 (List.mem_of_getElem? (i := 113) rfl)) (lm_1 (List.mem_of_getElem? (i := 11) rfl)) (lm_3 (List.mem_of_getElem? (i := 67) rfl)) (by decide +kernel) (by rw [hR]; decide) (by rw [hR]; decide) (by rw [hR]; decide) (by rw [hR]; decide) hs hbel (kt q)
  refine pg_iload_n X d_V_existingVisitor_0 rfl ?_
  refine pg_if_lt X d_V_existingVisitor_1 (fun c1 => ?_) (fun c1 => ?_)
  · refine bad (fun ⟨t, h1, h2⟩ => ?_)
    rw [h2] at c1
    exact nI_pos (by omega) c1
  refine pg_iload_n X d_V_existingVisitor_4 rfl ?_
  refine pg_aload_n X d_V_existingVisitor_5 rfl ?_
  refine pg_getf X (f_V_28 hG) d_V_existingVisitor_6 (px_rd_of (by assumption)) rfl ?_
  refine pg_getf X (f_V_108 hG) d_V_existingVisitor_9 (px_rd_of (by assumption)) rfl ?_
  refine pg_icmp_lt X d_V_existingVisitor_12 (fun c2 => ?_) (fun c2 => ?_)
  · obtain ⟨t, h1, h2⟩ : ∃ t, t < tl ∧ x = nI t := by
      rcases pk_ix x (n := tl) (by omega) with q | q | q
      · exact absurd q c1
      · exact absurd c2 (k2_nlt q)
      · exact q
    have kx := k t h1 h2
    clear k
    subst h2
    refine pg_aload_n X d_V_existingVisitor_25 rfl ?_
    refine pg_getf X (f_V_28 hG) d_V_existingVisitor_26 (px_rd_of (by assumption)) rfl ?_
    refine pg_getf X (f_V_210 hG) d_V_existingVisitor_29 (px_rd_of (by assumption)) rfl ?_
    refine pg_iload_n X d_V_existingVisitor_32 rfl ?_
    refine pg_aaldN X d_V_existingVisitor_33 (px_rd_of (by assumption)) rfl (by first | assumption | omega) (by first | assumption | omega) (by rfl) ?_
    exact pg_aret X Y (Or.inl ⟨_, rfl⟩) (Or.inr ⟨_, rfl⟩) d_V_existingVisitor_34 (by decide) (Nat.zero_le _) (Nat.zero_le _) kx
  · refine bad (fun ⟨t, h1, h2⟩ => ?_)
    rw [h2] at c2
    exact c2 (nI_lt h1 (by omega))
end VST
