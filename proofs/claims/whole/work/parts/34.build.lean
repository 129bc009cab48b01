/-! HOUSE: build, addThing, addDoor; THE CLASS: wall, thing, door -/
section BLD
variable {l : Launch} {G : px_Cg} {π π0 : px_H} {K : Option Value ⊕ String → px_H → Prop} {zh z n nt nd wd ht : Nat} {h h' h1 w wt : Nat → Nat → Int32} {ta : Nat → Int32}
/-- the same house but for queue and distances -/
def hN (h h' : Nat → Nat → Int32) : Prop := h' 0 = h 0 ∧ h' 1 = h 1 ∧ h' 2 = h 2 ∧ h' 3 = h 3 ∧ h' 4 = h 4
/-- goal g's distances are right -/
def HD (wd ht : Nat) (h : Nat → Nat → Int32) (g : Nat) : Prop := ∃ c, h 2 g = nI c ∧ inC wd ht c ∧ isD wd ht (h 1) c (h (6 + g))
/-- a house with right distances -/
def HG (h : Nat → Nat → Int32) (wd ht nt nd n : Nat) : Prop := HF h wd ht nt nd n ∧ ∀ g, isG nt nd g → HD wd ht h g
theorem hN.rf : hN h h := ⟨rfl, rfl, rfl, rfl, rfl⟩
theorem hN.hm (H : hN h h1) {g : Nat} {D Q : Nat → Int32} : hN h (hm h1 g D Q) := by
  obtain ⟨a0, a1, a2, a3, a4⟩ := H
  exact ⟨by rw [hm_r (by decide) (by omega)]; exact a0, by rw [hm_r (by decide) (by omega)]; exact a1, by rw [hm_r (by decide) (by omega)]; exact a2, by rw [hm_r (by decide) (by omega)]; exact a3, by rw [hm_r (by decide) (by omega)]; exact a4⟩
theorem HF.N (B : HF h wd ht nt nd n) (N : hN h h') : HF h' wd ht nt nd n := by
  obtain ⟨b0, b1, b2, b3, b4, b5, b6, b7, b8, b9⟩ := B
  obtain ⟨a0, a1, a2, a3, a4⟩ := N
  refine ⟨by rw [a0]; exact b0, by rw [a0]; exact b1, by rw [a0]; exact b2, by rw [a0]; exact b3, b4, b5, b6, b7, b8, by rw [a2]; exact b9⟩
theorem t_H_build (A : GA G) (H : RH zh n h π) (B : HF h wd ht nt nd n) {c : Nat} (hc : c < n) {v : Int32} (hv : narrow .boolean (.int v) = .int v)
    (k : ∀ h' π1, hN (up2 h 1 c v) h' → HG h' wd ht nt nd n → RH zh n h' π1 → px_off zh 17 π π1 → K (.inl none) π1) :
    px_P l G y_H_build b_H_build 4 none (px_rm 2 52) true [.ref zh, .int (nI c), .int v] π K := by
  have hG := A.1
  have hZ := A.2.1
  refine px_P.intro (by decide) hZ (by simp [Value.category]) (Nat.le_of_ble_eq_true rfl) rfl ?_
  intro Γ hl hR X Y hnm hs hbel
  subst hl
  refine pg_w ?_
  have Bd := B
  obtain ⟨b0, b1, b2, b3, b4, b5, b6, b7, b8, b9⟩ := Bd
  have ho := H.o
  have hwl := H.wl
  have B1 : HF (up2 h 1 c v) wd ht nt nd n := ⟨by rw [up2_r (by decide)]; exact b0, by rw [up2_r (by decide)]; exact b1, by rw [up2_r (by decide)]; exact b2, by rw [up2_r (by decide)]; exact b3, b4, b5, b6, b7, b8, by rw [up2_r (by decide)]; exact b9⟩
  refine pg_aload_n X d_H_build_0 rfl ?_
  refine pg_getf X (f_H_43 hG) d_H_build_1 (px_rd_of (by assumption)) rfl ?_
  refine pg_iload_n X d_H_build_4 rfl ?_
  refine pg_iload_n X d_H_build_5 rfl ?_
  refine pg_zastN X d_H_build_6 (by assumption) (by first | assumption | omega) (by first | assumption | omega) hv ?_
  have S : SH zh n (up2 h 1 c v) π (px_wr π (zh + 4) (.inl (.boolean, n, .inl (upd (h 1) c v)))) := ⟨H.wa (Or.inr (Or.inr (Or.inr (Or.inl ⟨rfl, rfl, rfl, rfl⟩)))), px_off.wr (by omega) (by omega)⟩
  generalize px_wr π (zh + 4) (.inl (.boolean, n, .inl (upd (h 1) c v))) = π1 at S ⊢
  have loop : ∀ r i h' π1, i + r = 10 → hN (up2 h 1 c v) h' → (∀ g, g < i → isG nt nd g → HD wd ht h' g) → SH zh n h' π π1 → px_G Γ G (px_Q Γ G true K) true 0 0 9 [some (.ref zh), some (.int (nI c)), some (.int v), some (.int (nI i))] [] π1 := by
    intro r
    induction r with
    | zero =>
      intro i h' π1 hi N D S
      refine pg_iload_n X d_H_build_9 rfl ?_
      refine pg_bipush X (10) d_H_build_10 (by decide) ?_
      refine pg_icmp_ge X d_H_build_12 (fun c1 => ?_) (fun c1 => ?_)
      · exact pg_vret X Y d_H_build_34 (by decide) (Nat.zero_le _) (Nat.zero_le _) (k h' π1 N ⟨B1.N N, fun g hg => D g (by have := isG_10 b6 b7 hg; omega) hg⟩ S.1 S.2)
      · simp (disch := omega) only [Int32.lt_iff_toInt_lt, Int32.le_iff_toInt_le, nI_toInt, px_l0, px_l1, px_l2, px_l3, px_l4, px_l5, px_l6, px_l10, px_l11, px_l12, px_l16, px_l30, px_l100, px_l400] at c1
        omega
    | succ r ih =>
      intro i h' π1 hi N D S
      have B2 := B1.N N
      have go : ∀ h' π1, hN (up2 h 1 c v) h' → (∀ g, g < i + 1 → isG nt nd g → HD wd ht h' g) → SH zh n h' π π1 → px_G Γ G (px_Q Γ G true K) true 0 0 28 [some (.ref zh), some (.int (nI c)), some (.int v), some (.int (nI i))] [] π1 := by
        intro h' π1 N D S
        refine pg_iinc3 X d_H_build_28 ?_
        refine pg_goto X d_H_build_31 ?_
        rw [nI_i1]
        exact ih (i + 1) h' π1 (by omega) N D S
      refine pg_iload_n X d_H_build_9 rfl ?_
      refine pg_bipush X (10) d_H_build_10 (by decide) ?_
      refine pg_icmp_ge X d_H_build_12 (fun c1 => ?_) (fun c1 => ?_)
      · simp (disch := omega) only [Int32.lt_iff_toInt_lt, Int32.le_iff_toInt_le, nI_toInt, px_l0, px_l1, px_l2, px_l3, px_l4, px_l5, px_l6, px_l10, px_l11, px_l12, px_l16, px_l30, px_l100, px_l400] at c1
        omega
      have ho := S.1.o
      refine pg_aload_n X d_H_build_15 rfl ?_
      refine pg_iload_n X d_H_build_16 rfl ?_
      refine pc_V (ci := 0) (As := [_]) X Y d_H_build_17 (c_H_61 hG) (i_H_isGoal hG) (v_H_isGoal hG) (fun r h => by rw [hG.2] at h; cases h; rfl) rfl rfl (Nat.le_of_ble_eq_true rfl) (by rw [hR]; exact ⟨by decide, by decide⟩) (by decide) (by decide) (by rw [hR]; first | decide | (dsimp only [px_rm]; omega)) (by rw [hR]; first | decide | (dsimp only [px_rm]; omega)) (px_rd_of (by assumption)) (t_H_isGoal A S.1 B2.2.2.1 B2.2.2.2.1 b6 b7 (g := i) (by omega) (fun hy => ?_) (fun hy => ?_))
      · refine pg_if_eq X d_H_build_20 (fun c2 => ?_) (fun c2 => ?_)
        · exact absurd c2 (by decide)
        refine pg_aload_n X d_H_build_23 rfl ?_
        refine pg_iload_n X d_H_build_24 rfl ?_
        obtain ⟨x, hx1, hx2⟩ := B2.2.2.2.2.2.2.2.2.2 i hy
        refine pc_V (ci := 0) (As := [_]) X Y d_H_build_25 (c_H_65 hG) (i_H_measure hG) (v_H_measure hG) (fun r h => by rw [hG.2] at h; cases h; rfl) rfl rfl (Nat.le_of_ble_eq_true rfl) (by rw [hR]; exact ⟨by decide, by decide⟩) (by decide) (by decide) (by rw [hR]; first | decide | (dsimp only [px_rm]; omega)) (by rw [hR]; first | decide | (dsimp only [px_rm]; omega)) (px_rd_of (by assumption)) (t_H_measure A S.1 b8 B2.1 B2.2.1 b4.2 b5.2 (g := i) (by omega) hx1 hx2 (fun E Q π2 hE R2 O2 => ?_))
        refine go _ π2 N.hm (fun g hg hgg => ?_) ⟨R2, S.2.tr O2⟩
        by_cases q : g = i
        · subst q
          refine ⟨x, by rw [hm_r (by decide) (by omega)]; exact hx1, hx2, ?_⟩
          rw [hm_g, hm_r (by decide) (by omega)]
          exact hE
        · have := D g (by omega) hgg
          unfold HD at this ⊢
          rw [hm_r (by decide) (by omega), hm_r (by decide) (by omega), hm_r (by omega) (by omega)]
          exact this
      · refine pg_if_eq X d_H_build_20 (fun c2 => ?_) (fun c2 => ?_)
        · refine go h' π1 N (fun g hg hgg => ?_) S
          by_cases q : g = i
          · subst q
            exact absurd hgg hy
          · exact D g (by omega) hgg
        · exact absurd rfl c2
  refine pg_iconst X (0) d_H_build_7 (by decide) ?_
  refine pg_istore3 X d_H_build_8 ?_
  exact loop 10 0 _ π1 rfl hN.rf (fun g hg => by omega) S
/-- h with a thing more, with a door more -/
def thH (h : Nat → Nat → Int32) (nt : Nat) (c : Nat) (x y : Int32) : Nat → Nat → Int32 := up2 (up2 (up2 (up2 h 3 nt x) 4 nt y) 2 nt (nI c)) 0 3 (nI (nt + 1))
def drH (h : Nat → Nat → Int32) (nd : Nat) (c : Nat) : Nat → Nat → Int32 := up2 (up2 h 2 (6 + nd) (nI c)) 0 4 (nI (nd + 1))
theorem t_H_addThing (A : GA G) (H : RH zh n h π) (B : HG h wd ht nt nd n) (hnt : nt < 6) {c : Nat} (hc : inC wd ht c) {x y : Int32}
    (k : ∀ h' π1, hN (thH h nt c x y) h' → HG h' wd ht (nt + 1) nd n → RH zh n h' π1 → px_off zh 17 π π1 → K (.inl (some (.int (nI nt)))) π1) :
    px_P l G y_H_addThing b_H_addThing 5 (some .int) (px_rm 2 52) true [.ref zh, .int (nI c), .int x, .int y] π K := by
  have hG := A.1
  have hZ := A.2.1
  refine px_P.intro (by decide) hZ (by simp [Value.category]) (Nat.le_of_ble_eq_true rfl) rfl ?_
  intro Γ hl hR X Y hnm hs hbel
  subst hl
  refine pg_w ?_
  obtain ⟨⟨b0, b1, b2, b3, b4, b5, b6, b7, b8, b9⟩, D⟩ := B
  have ho := H.o
  have ho2 := ho
  rw [b2] at ho2
  have hit := H.it
  clear ho
  refine pg_aload_n X d_H_addThing_0 rfl ?_
  refine pg_getf X (f_H_21 hG) d_H_addThing_1 (px_rd_of (by assumption)) rfl ?_
  refine pg_istore4 X d_H_addThing_4 ?_
  refine pg_aload_n X d_H_addThing_6 rfl ?_
  refine pg_getf X (f_H_15 hG) d_H_addThing_7 (px_rd_of (by assumption)) rfl ?_
  refine pg_iload X d_H_addThing_10 rfl ?_
  refine pg_iload_n X d_H_addThing_12 rfl ?_
  refine pg_iastN X d_H_addThing_13 (by assumption) (by first | assumption | omega) (by first | assumption | omega) ?_
  have S : SH zh n (up2 h 3 nt x) π (px_wr π (zh + 2) (.inl (.int, 6, .inl (upd (h 3) nt x)))) := ⟨H.wa (Or.inr (Or.inl ⟨rfl, rfl, rfl, rfl⟩)), px_off.wr (by omega) (by omega)⟩
  generalize px_wr π (zh + 2) (.inl (.int, 6, .inl (upd (h 3) nt x))) = π1 at S ⊢
  have ho := S.1.o
  have hsy := S.1.sy
  refine pg_aload_n X d_H_addThing_14 rfl ?_
  refine pg_getf X (f_H_18 hG) d_H_addThing_15 (px_rd_of (by assumption)) rfl ?_
  refine pg_iload X d_H_addThing_18 rfl ?_
  refine pg_iload_n X d_H_addThing_20 rfl ?_
  refine pg_iastN X d_H_addThing_21 (by assumption) (by first | assumption | omega) (by first | assumption | omega) ?_
  have S := S.step (by omega) (by omega) (S.1.wa (Or.inr (Or.inr (Or.inl ⟨rfl, rfl, rfl, rfl⟩))) (c := nt) (x := y))
  generalize px_wr π1 (zh + 3) (.inl (.int, 6, .inl (upd (up2 h 3 nt x 4) nt y))) = π2 at S ⊢
  have ho := S.1.o
  have hgc := S.1.gc
  refine pg_aload_n X d_H_addThing_22 rfl ?_
  refine pg_getf X (f_H_9 hG) d_H_addThing_23 (px_rd_of (by assumption)) rfl ?_
  refine pg_iload X d_H_addThing_26 rfl ?_
  refine pg_iload_n X d_H_addThing_28 rfl ?_
  refine pg_iastN X d_H_addThing_29 (by assumption) (by first | assumption | omega) (by first | assumption | omega) ?_
  have S := S.step (by omega) (by omega) (S.1.wa (Or.inl ⟨rfl, rfl, rfl, rfl⟩) (c := nt) (x := nI c))
  generalize px_wr π2 (zh + 1) (.inl (.int, 10, .inl (upd (up2 (up2 h 3 nt x) 4 nt y 2) nt (nI c)))) = π3 at S ⊢
  have ho := S.1.o
  refine pg_aload_n X d_H_addThing_30 rfl ?_
  refine pg_dup X d_H_addThing_31 rfl ?_
  refine pg_getf X (f_H_21 hG) d_H_addThing_32 (px_rd_of (by assumption)) rfl ?_
  refine pg_iconst X (1) d_H_addThing_35 (by decide) ?_
  refine pg_iadd X d_H_addThing_36 ?_
  have e3 : up2 (up2 (up2 h 3 nt x) 4 nt y) 2 nt (nI c) 0 3 + 1 = nI (nt + 1) := by
    rw [up2_r (by decide), up2_r (by decide), up2_r (by decide), b2]
    exact nI_1 nt
  rw [e3]
  refine pg_putf X (f_H_21 hG) (ct_H hG) (nf_H_things hG) rfl rfl d_H_addThing_37 (by assumption) ?_
  have S := S.step (by omega) (by omega) (S.1.ws (j := 3) (Or.inl ⟨rfl, rfl⟩) (x := nI (nt + 1)))
  have S : SH zh n (thH h nt c x y) π _ := S
  have f0 : thH h nt c x y 0 0 = nI wd := by unfold thH; rw [up2_n (by decide), up2_r (by decide), up2_r (by decide), up2_r (by decide)]; exact b0
  have f1 : thH h nt c x y 0 1 = nI ht := by unfold thH; rw [up2_n (by decide), up2_r (by decide), up2_r (by decide), up2_r (by decide)]; exact b1
  have f3 : thH h nt c x y 0 3 = nI (nt + 1) := by unfold thH; rw [up2_s]
  have f4 : thH h nt c x y 0 4 = nI nd := by unfold thH; rw [up2_n (by decide), up2_r (by decide), up2_r (by decide), up2_r (by decide)]; exact b3
  have f2 : thH h nt c x y 2 nt = nI c := by unfold thH; rw [up2_r (by decide), up2_s]
  have f2n : ∀ g, g ≠ nt → thH h nt c x y 2 g = h 2 g := fun g hg => by unfold thH; rw [up2_r (by decide), up2_n (by omega), up2_r (by decide), up2_r (by decide)]
  have fw : thH h nt c x y 1 = h 1 := by unfold thH; rw [up2_r (by decide), up2_r (by decide), up2_r (by decide), up2_r (by decide)]
  have fd : ∀ g, thH h nt c x y (6 + g) = h (6 + g) := fun g => by unfold thH; rw [up2_r (by omega), up2_r (by omega), up2_r (by omega), up2_r (by omega)]
  have hgg : ∀ g, isG (nt + 1) nd g → g ≠ nt → isG nt nd g := fun g hg hne => by unfold isG at hg ⊢; omega
  have B1 : HF (thH h nt c x y) wd ht (nt + 1) nd n := ⟨f0, f1, f3, f4, b4, b5, by omega, b7, b8, fun g hg => by
    by_cases q : g = nt
    · rw [q]; exact ⟨c, f2, hc⟩
    · rw [f2n g q]; exact b9 g (hgg g hg q)⟩
  have ho := S.1.o
  refine pg_aload_n X d_H_addThing_40 rfl ?_
  refine pg_iload X d_H_addThing_41 rfl ?_
  refine pc_V (ci := 0) (As := [_]) X Y d_H_addThing_43 (c_H_65 hG) (i_H_measure hG) (v_H_measure hG) (fun r h => by rw [hG.2] at h; cases h; rfl) rfl rfl (Nat.le_of_ble_eq_true rfl) (by rw [hR]; exact ⟨by decide, by decide⟩) (by decide) (by decide) (by rw [hR]; first | decide | (dsimp only [px_rm]; omega)) (by rw [hR]; first | decide | (dsimp only [px_rm]; omega)) (px_rd_of (by assumption)) (t_H_measure A S.1 b8 f0 f1 b4.2 b5.2 (g := nt) (by omega) f2 hc (fun E Q π2 hE R2 O2 => ?_))
  refine pg_iload X d_H_addThing_46 rfl ?_
  have fin : ∀ g, isG (nt + 1) nd g → HD wd ht (hm (thH h nt c x y) (nt) E Q) g := by
    intro g hg
    by_cases q : g = nt
    · subst q
      exact ⟨c, by rw [hm_r (by decide) (by omega)]; exact f2, hc, by rw [hm_g, hm_r (by decide) (by omega)]; exact hE⟩
    · have := D g (hgg g hg q)
      unfold HD at this ⊢
      rw [hm_r (by decide) (by omega), hm_r (by decide) (by omega), hm_r (by omega) (by omega), f2n g q, fw, fd]
      exact this
  exact pg_iret X Y d_H_addThing_48 rfl (by decide) (Nat.zero_le _) (Nat.zero_le _) (k _ π2 hN.rf.hm ⟨B1.N hN.rf.hm, fin⟩ R2 (S.2.tr O2))
theorem t_H_addDoor (A : GA G) (H : RH zh n h π) (B : HG h wd ht nt nd n) (hnd : nd < 4) {c : Nat} (hc : inC wd ht c)
    (k : ∀ h' π1, hN (drH h nd c) h' → HG h' wd ht nt (nd + 1) n → RH zh n h' π1 → px_off zh 17 π π1 → K (.inl (some (.int (nI nd)))) π1) :
    px_P l G y_H_addDoor b_H_addDoor 3 (some .int) (px_rm 2 52) true [.ref zh, .int (nI c)] π K := by
  have hG := A.1
  have hZ := A.2.1
  refine px_P.intro (by decide) hZ (by simp [Value.category]) (Nat.le_of_ble_eq_true rfl) rfl ?_
  intro Γ hl hR X Y hnm hs hbel
  subst hl
  refine pg_w ?_
  obtain ⟨⟨b0, b1, b2, b3, b4, b5, b6, b7, b8, b9⟩, D⟩ := B
  have ho := H.o
  have ho2 := ho
  rw [b3] at ho2
  have hgc := H.gc
  have e6 : (6 : Int32) + nI nd = nI (6 + nd) := nI_add 6 nd
  clear ho
  refine pg_aload_n X d_H_addDoor_0 rfl ?_
  refine pg_getf X (f_H_25 hG) d_H_addDoor_1 (px_rd_of (by assumption)) rfl ?_
  refine pg_istore2 X d_H_addDoor_4 ?_
  refine pg_aload_n X d_H_addDoor_5 rfl ?_
  refine pg_getf X (f_H_9 hG) d_H_addDoor_6 (px_rd_of (by assumption)) rfl ?_
  refine pg_bipush X (6) d_H_addDoor_9 (by decide) ?_
  refine pg_iload_n X d_H_addDoor_11 rfl ?_
  refine pg_iadd X d_H_addDoor_12 ?_
  rw [e6]
  refine pg_iload_n X d_H_addDoor_13 rfl ?_
  refine pg_iastN X d_H_addDoor_14 (by assumption) (by first | assumption | omega) (by first | assumption | omega) ?_
  have S : SH zh n (up2 h 2 (6 + nd) (nI c)) π (px_wr π (zh + 1) (.inl (.int, 10, .inl (upd (h 2) (6 + nd) (nI c))))) := ⟨H.wa (Or.inl ⟨rfl, rfl, rfl, rfl⟩), px_off.wr (by omega) (by omega)⟩
  generalize px_wr π (zh + 1) (.inl (.int, 10, .inl (upd (h 2) (6 + nd) (nI c)))) = π1 at S ⊢
  have ho := S.1.o
  refine pg_aload_n X d_H_addDoor_15 rfl ?_
  refine pg_dup X d_H_addDoor_16 rfl ?_
  refine pg_getf X (f_H_25 hG) d_H_addDoor_17 (px_rd_of (by assumption)) rfl ?_
  refine pg_iconst X (1) d_H_addDoor_20 (by decide) ?_
  refine pg_iadd X d_H_addDoor_21 ?_
  have e3 : up2 h 2 (6 + nd) (nI c) 0 4 + 1 = nI (nd + 1) := by
    rw [up2_r (by decide), b3]
    exact nI_1 nd
  rw [e3]
  refine pg_putf X (f_H_25 hG) (ct_H hG) (nf_H_doors hG) rfl rfl d_H_addDoor_22 (by assumption) ?_
  have S := S.step (by omega) (by omega) (S.1.ws (j := 4) (Or.inr (Or.inl ⟨rfl, rfl⟩)) (x := nI (nd + 1)))
  have S : SH zh n (drH h nd c) π _ := S
  have f0 : drH h nd c 0 0 = nI wd := by unfold drH; rw [up2_n (by decide), up2_r (by decide)]; exact b0
  have f1 : drH h nd c 0 1 = nI ht := by unfold drH; rw [up2_n (by decide), up2_r (by decide)]; exact b1
  have f3 : drH h nd c 0 3 = nI nt := by unfold drH; rw [up2_n (by decide), up2_r (by decide)]; exact b2
  have f4 : drH h nd c 0 4 = nI (nd + 1) := by unfold drH; rw [up2_s]
  have f2 : drH h nd c 2 (6 + nd) = nI c := by unfold drH; rw [up2_r (by decide), up2_s]
  have f2n : ∀ g, g ≠ 6 + nd → drH h nd c 2 g = h 2 g := fun g hg => by unfold drH; rw [up2_r (by decide), up2_n (by omega)]
  have fw : drH h nd c 1 = h 1 := by unfold drH; rw [up2_r (by decide), up2_r (by decide)]
  have fd : ∀ g, drH h nd c (6 + g) = h (6 + g) := fun g => by unfold drH; rw [up2_r (by omega), up2_r (by omega)]
  have hgg : ∀ g, isG nt (nd + 1) g → g ≠ 6 + nd → isG nt nd g := fun g hg hne => by unfold isG at hg ⊢; omega
  have B1 : HF (drH h nd c) wd ht nt (nd + 1) n := ⟨f0, f1, f3, f4, b4, b5, b6, by omega, b8, fun g hg => by
    by_cases q : g = 6 + nd
    · rw [q]; exact ⟨c, f2, hc⟩
    · rw [f2n g q]; exact b9 g (hgg g hg q)⟩
  have ho := S.1.o
  refine pg_aload_n X d_H_addDoor_25 rfl ?_
  refine pg_bipush X (6) d_H_addDoor_26 (by decide) ?_
  refine pg_iload_n X d_H_addDoor_28 rfl ?_
  refine pg_iadd X d_H_addDoor_29 ?_
  rw [e6]
  refine pc_V (ci := 0) (As := [_]) X Y d_H_addDoor_30 (c_H_65 hG) (i_H_measure hG) (v_H_measure hG) (fun r h => by rw [hG.2] at h; cases h; rfl) rfl rfl (Nat.le_of_ble_eq_true rfl) (by rw [hR]; exact ⟨by decide, by decide⟩) (by decide) (by decide) (by rw [hR]; first | decide | (dsimp only [px_rm]; omega)) (by rw [hR]; first | decide | (dsimp only [px_rm]; omega)) (px_rd_of (by assumption)) (t_H_measure A S.1 b8 f0 f1 b4.2 b5.2 (g := 6 + nd) (by omega) f2 hc (fun E Q π2 hE R2 O2 => ?_))
  refine pg_iload_n X d_H_addDoor_33 rfl ?_
  have fin : ∀ g, isG nt (nd + 1) g → HD wd ht (hm (drH h nd c) (6 + nd) E Q) g := by
    intro g hg
    by_cases q : g = 6 + nd
    · subst q
      exact ⟨c, by rw [hm_r (by decide) (by omega)]; exact f2, hc, by rw [hm_g, hm_r (by decide) (by omega)]; exact hE⟩
    · have := D g (hgg g hg q)
      unfold HD at this ⊢
      rw [hm_r (by decide) (by omega), hm_r (by decide) (by omega), hm_r (by omega) (by omega), f2n g q, fw, fd]
      exact this
  exact pg_iret X Y d_H_addDoor_34 rfl (by decide) (Nat.zero_le _) (Nat.zero_le _) (k _ π2 hN.rf.hm ⟨B1.N hN.rf.hm, fin⟩ R2 (S.2.tr O2))
end BLD
