/-! HOUSE: fill, one nearer, the nearest door -/
section PGE
variable {Γ : px_Cm} {G : px_Cg} {Q : State → Prop} {w : Bool} {nc ns pc : Nat} {ls : List (Option Value)} {st : List Value} {π : px_H}
theorem px_wr_same {a : Nat} {e : px_E} (h : π.2 a = some e) : px_wr π a e = π := by
  unfold px_wr
  refine Prod.ext rfl ?_
  funext q
  by_cases hq : q = a
  · simp [hq, h]
  · simp [hq]
/-- an array's contents matter within its length alone -/
theorem pg_eqv {a n : Nat} {ty : FieldType} {f f' : Nat → Int32} (hr : π.2 a = some (.inl (ty, n, .inl f))) (hf : ∀ j, j < n → f j = f' j) (kk : px_G Γ G Q w nc ns pc ls st (px_wr π a (.inl (ty, n, .inl f')))) : px_G Γ G Q w nc ns pc ls st π := by
  intro H lsA locs hL hM hl
  refine kk H lsA locs hL (hM.wr hr ?_ rfl (fun _ _ => rfl)) hl
  obtain ⟨-, cell, h1, h2, h3, h4, h5, h6⟩ := hM.2.2.2 a _ hr
  refine ⟨cell, h1, h2, h3, h4, h5, fun j hj => ?_⟩
  rw [h6 j hj]
  show some (Value.int (f j)) = some (Value.int (f' j))
  rw [hf j hj]
end PGE
theorem nI_i1 (i : Nat) : nI i + Int32.ofInt 1 = nI (i + 1) := nI_1 i
section HON
variable {l : Launch} {G : px_Cg} {π : px_H} {K : Option Value ⊕ String → px_H → Prop} {zh n nt nd wd ht : Nat} {h : Nat → Nat → Int32}
theorem t_A_fill (A : GA G) {a : Nat} {x : Int32} {f : Nat → Int32} (hn : n < 2 ^ 31) (ha : π.2 a = some (.inl (.int, n, .inl f))) (k : K (.inl none) (px_wr π a (.inl (.int, n, .inl (fun _ => x))))) :
    px_P l G y_A_fill b_A_fill 4 none (px_rm 0 0) true [.ref a, .int x] π K := by
  have hG := A.1
  have hZ := A.2.1
  refine px_P.intro (by decide) hZ (by simp [Value.category]) (Nat.le_of_ble_eq_true rfl) rfl ?_
  intro Γ hl hR X Y hnm hs hbel
  subst hl
  refine pg_w ?_
  refine pg_iconst X (0) d_A_fill_0 (by decide) ?_
  refine pg_istore2 X d_A_fill_1 ?_
  refine pg_aload_n X d_A_fill_2 rfl ?_
  refine pg_alen X d_A_fill_3 (px_rd_of (by assumption)) ?_
  refine pg_istore3 X d_A_fill_4 ?_
  have loop : ∀ k i, i + k = n → px_G Γ G (px_Q Γ G true K) true 0 0 5 [some (.ref a), some (.int x), some (.int (nI i)), some (.int (nI n))] [] (px_wr π a (.inl (.int, n, .inl (fun j => if j < i then x else f j)))) := by
    intro k
    induction k with
    | zero =>
      intro i hi
      refine pg_iload_n X d_A_fill_5 rfl ?_
      refine pg_iload_n X d_A_fill_6 rfl ?_
      refine pg_icmp_ge X d_A_fill_7 (fun c => ?_) (fun c => ?_)
      · refine pg_eqv (f' := fun _ => x) px_wr_self (fun j hj => by simp; omega) ?_
        rw [px_wr_wr]
        exact pg_vret X Y d_A_fill_20 (by decide) (Nat.zero_le _) (Nat.zero_le _) (k)
      · simp (disch := omega) only [Int32.lt_iff_toInt_lt, Int32.le_iff_toInt_le, nI_toInt, px_l0, px_l1, px_l2, px_l3, px_l4, px_l5, px_l6, px_l10, px_l11, px_l12, px_l16, px_l30, px_l100, px_l400] at c
        omega
    | succ k ih =>
      intro i hi
      have hin : vp_in (nI i) n := vp_in_nI (by omega) hn
      have ecl : (nI i).toNatClampNeg = i := nI_clamp (by omega)
      have hself := px_wr_self (π := π) (a := a) (e := .inl (.int, n, .inl (fun j => if j < i then x else f j)))
      refine pg_iload_n X d_A_fill_5 rfl ?_
      refine pg_iload_n X d_A_fill_6 rfl ?_
      refine pg_icmp_ge X d_A_fill_7 (fun c => ?_) (fun c => ?_)
      · simp (disch := omega) only [Int32.lt_iff_toInt_lt, Int32.le_iff_toInt_le, nI_toInt, px_l0, px_l1, px_l2, px_l3, px_l4, px_l5, px_l6, px_l10, px_l11, px_l12, px_l16, px_l30, px_l100, px_l400] at c
        omega
      refine pg_aload_n X d_A_fill_10 rfl ?_
      refine pg_iload_n X d_A_fill_11 rfl ?_
      refine pg_iload_n X d_A_fill_12 rfl ?_
      refine pg_iast X d_A_fill_13 (by assumption) (by assumption) ?_
      refine pg_iinc2 X d_A_fill_14 ?_
      refine pg_goto X d_A_fill_17 ?_
      rw [px_wr_wr, ecl, nI_i1]
      have e3 : upd (fun j => if j < i then x else f j) i x = fun j => if j < i + 1 then x else f j := by
        funext j
        unfold upd
        by_cases q : j = i
        · simp [q]
        · by_cases q2 : j < i
          · simp [q, q2, Nat.lt_succ_of_lt q2]
          · simp [q, q2]; omega
      rw [e3]
      exact ih (i + 1) (by omega)
  have h0 := loop n 0 (by omega)
  have e0 : (fun j => if j < 0 then x else f j) = f := by funext j; simp
  rw [e0, px_wr_same ha] at h0
  exact h0
theorem nbr_in {c d o : Nat} (hw : wd ≤ 12) (hc : inC wd ht c) (ho : nbr wd ht c d = some o) : inC wd ht o := by
  unfold inC at hc ⊢
  unfold nbr at ho
  split at ho <;> split at ho <;> first | (cases ho; omega) | cases ho
theorem inC_lt {c : Nat} (hc : inC wd ht c) : c < 12 * ht := by unfold inC at hc; omega
def rv (r : Nat → Int32) (o : Option Nat) : Int32 := match o with
  | some c => r c
  | none => -1
def nearA (wd ht : Nat) (r : Nat → Int32) (c : Nat) (nr : Int32) : Nat → Nat → Int32
  | 0, _ => -1
  | k + 1, s => if rv r (nbr wd ht c s) = nr then px_ov (nbr wd ht c s) else nearA wd ht r c nr k (s + 1)
def nearC (wd ht : Nat) (r : Nat → Int32) (c : Nat) : Int32 := if r c - 1 < 0 then -1 else nearA wd ht r c (r c - 1) 4 0
theorem t_H_cellOneNearer (A : GA G) (H : RH zh n h π) (hn : n = 12 * ht) (h0 : h 0 0 = nI wd) (h1 : h 0 1 = nI ht) (hwd : wd ≤ 12) (hht : ht ≤ 12) {g c : Nat} (hg : g < 10) (hc : inC wd ht c) (k : K (.inl (some (.int (nearC wd ht (h (6 + g)) c)))) π) :
    px_P l G y_H_cellOneNearer b_H_cellOneNearer 6 (some .int) (px_rm 1 24) false [.ref zh, .int (nI g), .int (nI c)] π K := by
  have hG := A.1
  have hZ := A.2.1
  refine px_P.intro (by decide) hZ (by simp [Value.category]) (Nat.le_of_ble_eq_true rfl) rfl ?_
  intro Γ hl hR X Y hnm hs hbel
  subst hl
  have ho := H.o
  have hc2 := inC_lt hc
  refine pg_aload_n X d_H_cellOneNearer_0 rfl ?_
  refine pg_iload_n X d_H_cellOneNearer_1 rfl ?_
  refine pg_iload_n X d_H_cellOneNearer_2 rfl ?_
  refine pc_V (ci := 0) (As := [_, _]) X Y d_H_cellOneNearer_3 (c_H_79 hG) (i_H_distanceTo hG) (v_H_distanceTo hG) (fun r h => by rw [hG.2] at h; cases h; rfl) rfl rfl (Nat.le_of_ble_eq_true rfl) (by rw [hR]; exact ⟨by decide, by decide⟩) (by decide) (by decide) (by rw [hR]; first | decide | (dsimp only [px_rm]; omega)) (by rw [hR]; first | decide | (dsimp only [px_rm]; omega)) (px_rd_of (by assumption)) (t_H_distanceTo A H (by omega) hg (by omega) ?_)
  refine pg_iconst X (1) d_H_cellOneNearer_6 (by decide) ?_
  refine pg_isub X d_H_cellOneNearer_7 ?_
  refine pg_istore3 X d_H_cellOneNearer_8 ?_
  refine pg_iconst X (0) d_H_cellOneNearer_9 (by decide) ?_
  refine pg_istore4 X d_H_cellOneNearer_10 ?_
  generalize hnr : h (6 + g) c - 1 = nr
  unfold nearC at k
  rw [hnr] at k
  by_cases hneg : nr < 0
  · rw [if_pos hneg] at k
    refine pg_iload X d_H_cellOneNearer_12 rfl ?_
    refine pg_iconst X (4) d_H_cellOneNearer_14 (by decide) ?_
    refine pg_icmp_ge X d_H_cellOneNearer_15 (fun c1 => ?_) (fun c1 => ?_)
    · exact absurd c1 (by decide)
    refine pg_iload_n X d_H_cellOneNearer_18 rfl ?_
    refine pg_if_lt X d_H_cellOneNearer_19 (fun c2 => ?_) (fun c2 => ?_)
    · refine pg_iconst X (-1) d_H_cellOneNearer_51 (by decide) ?_
      exact pg_iret X Y d_H_cellOneNearer_52 rfl (by decide) (Nat.zero_le _) (Nat.zero_le _) (k)
    · exact absurd hneg c2
  rw [if_neg hneg] at k
  have loop : ∀ f s x, s + f = 4 → K (.inl (some (.int (nearA wd ht (h (6 + g)) c nr f s)))) π → px_G Γ G (px_Q Γ G false K) false 0 0 12 [some (.ref zh), some (.int (nI g)), some (.int (nI c)), some (.int nr), some (.int (nI s)), x] [] π := by
    intro f
    induction f with
    | zero =>
      intro s x hs k
      refine pg_iload X d_H_cellOneNearer_12 rfl ?_
      refine pg_iconst X (4) d_H_cellOneNearer_14 (by decide) ?_
      refine pg_icmp_ge X d_H_cellOneNearer_15 (fun c1 => ?_) (fun c1 => ?_)
      · refine pg_iconst X (-1) d_H_cellOneNearer_51 (by decide) ?_
        exact pg_iret X Y d_H_cellOneNearer_52 rfl (by decide) (Nat.zero_le _) (Nat.zero_le _) (k)
      · simp (disch := omega) only [Int32.lt_iff_toInt_lt, Int32.le_iff_toInt_le, nI_toInt, px_l0, px_l1, px_l2, px_l3, px_l4, px_l5, px_l6, px_l10, px_l11, px_l12, px_l16, px_l30, px_l100, px_l400] at c1
        omega
    | succ f ih =>
      intro s x hs k
      have again : ¬ rv (h (6 + g)) (nbr wd ht c s) = nr → ∀ y, px_G Γ G (px_Q Γ G false K) false 0 0 45 [some (.ref zh), some (.int (nI g)), some (.int (nI c)), some (.int nr), some (.int (nI s)), y] [] π := by
        intro q y
        refine pg_iinc4 X d_H_cellOneNearer_45 ?_
        refine pg_goto X d_H_cellOneNearer_48 ?_
        rw [nI_i1]
        refine ih (s + 1) y (by omega) ?_
        rw [nearA, if_neg q] at k
        exact k
      have found : rv (h (6 + g)) (nbr wd ht c s) = nr → px_G Γ G (px_Q Γ G false K) false 0 0 42 [some (.ref zh), some (.int (nI g)), some (.int (nI c)), some (.int nr), some (.int (nI s)), some (.int (px_ov (nbr wd ht c s)))] [] π := by
        intro q
        refine pg_iload X d_H_cellOneNearer_42 rfl ?_
        rw [nearA, if_pos q] at k
        exact pg_iret X Y d_H_cellOneNearer_44 rfl (by decide) (Nat.zero_le _) (Nat.zero_le _) (k)
      refine pg_iload X d_H_cellOneNearer_12 rfl ?_
      refine pg_iconst X (4) d_H_cellOneNearer_14 (by decide) ?_
      refine pg_icmp_ge X d_H_cellOneNearer_15 (fun c1 => ?_) (fun c1 => ?_)
      · simp (disch := omega) only [Int32.lt_iff_toInt_lt, Int32.le_iff_toInt_le, nI_toInt, px_l0, px_l1, px_l2, px_l3, px_l4, px_l5, px_l6, px_l10, px_l11, px_l12, px_l16, px_l30, px_l100, px_l400] at c1
        omega
      refine pg_iload_n X d_H_cellOneNearer_18 rfl ?_
      refine pg_if_lt X d_H_cellOneNearer_19 (fun c2 => ?_) (fun c2 => ?_)
      · exact absurd c2 hneg
      refine pg_aload_n X d_H_cellOneNearer_22 rfl ?_
      refine pg_iload_n X d_H_cellOneNearer_23 rfl ?_
      refine pg_iload X d_H_cellOneNearer_24 rfl ?_
      refine pc_V (ci := 0) (As := [_, _]) X Y d_H_cellOneNearer_26 (c_H_69 hG) (i_H_neighbour hG) (v_H_neighbour hG) (fun r h => by rw [hG.2] at h; cases h; rfl) rfl rfl (Nat.le_of_ble_eq_true rfl) (by rw [hR]; exact ⟨by decide, by decide⟩) (by decide) (by decide) (by rw [hR]; first | decide | (dsimp only [px_rm]; omega)) (by rw [hR]; first | decide | (dsimp only [px_rm]; omega)) (px_rd_of (by assumption)) (t_H_neighbour A H h0 h1 hwd hht hc (d := s) (by omega) ?_)
      refine pg_istore5 X d_H_cellOneNearer_29 ?_
      refine pg_aload_n X d_H_cellOneNearer_31 rfl ?_
      refine pg_iload_n X d_H_cellOneNearer_32 rfl ?_
      refine pg_iload X d_H_cellOneNearer_33 rfl ?_
      cases hnb : nbr wd ht c s with
      | none =>
        rw [hnb] at again found
        refine pc_V (ci := 0) (As := [_, _]) X Y d_H_cellOneNearer_35 (c_H_79 hG) (i_H_distanceTo hG) (v_H_distanceTo hG) (fun r h => by rw [hG.2] at h; cases h; rfl) rfl rfl (Nat.le_of_ble_eq_true rfl) (by rw [hR]; exact ⟨by decide, by decide⟩) (by decide) (by decide) (by rw [hR]; first | decide | (dsimp only [px_rm]; omega)) (by rw [hR]; first | decide | (dsimp only [px_rm]; omega)) (px_rd_of (by assumption)) (t_H_distanceToN A H (Or.inr (by decide)) ?_)
        refine pg_iload_n X d_H_cellOneNearer_38 rfl ?_
        refine pg_icmp_ne X d_H_cellOneNearer_39 (fun c3 => ?_) (fun c3 => ?_)
        · exact again c3 _
        · exact found c3
      | some o =>
        rw [hnb] at again found
        have ho2 := inC_lt (nbr_in hwd hc hnb)
        refine pc_V (ci := 0) (As := [_, _]) X Y d_H_cellOneNearer_35 (c_H_79 hG) (i_H_distanceTo hG) (v_H_distanceTo hG) (fun r h => by rw [hG.2] at h; cases h; rfl) rfl rfl (Nat.le_of_ble_eq_true rfl) (by rw [hR]; exact ⟨by decide, by decide⟩) (by decide) (by decide) (by rw [hR]; first | decide | (dsimp only [px_rm]; omega)) (by rw [hR]; first | decide | (dsimp only [px_rm]; omega)) (px_rd_of (by assumption)) (t_H_distanceTo A H (by omega) hg (c := o) (by omega) ?_)
        refine pg_iload_n X d_H_cellOneNearer_38 rfl ?_
        refine pg_icmp_ne X d_H_cellOneNearer_39 (fun c3 => ?_) (fun c3 => ?_)
        · exact again c3 _
        · exact found c3
  exact loop 4 0 none rfl k
def ndS (h : Nat → Nat → Int32) (c : Nat) : Nat → Int32 × Int32
  | 0 => (-1, 2147483647)
  | d + 1 => if ¬ h (12 + d) c = -1 ∧ h (12 + d) c < (ndS h c d).2 then (nI (6 + d), h (12 + d) c) else ndS h c d
theorem t_H_nearestDoor (A : GA G) (H : RH zh n h π) (hn : n < 2 ^ 31) (h4 : h 0 4 = nI nd) (hnd : nd ≤ 4) {c : Nat} (hc : c < n) (k : K (.inl (some (.int (ndS h c nd).1))) π) :
    px_P l G y_H_nearestDoor b_H_nearestDoor 6 (some .int) (px_rm 1 23) false [.ref zh, .int (nI c)] π K := by
  have hG := A.1
  have hZ := A.2.1
  refine px_P.intro (by decide) hZ (by simp [Value.category]) (Nat.le_of_ble_eq_true rfl) rfl ?_
  intro Γ hl hR X Y hnm hs hbel
  subst hl
  have ho := H.o
  rw [h4] at ho
  refine pg_iconst X (-1) d_H_nearestDoor_0 (by decide) ?_
  refine pg_istore2 X d_H_nearestDoor_1 ?_
  refine pg_ldc X (2147483647) d_H_nearestDoor_2 (hG.t (lm_2 (List.mem_of_getElem? (i := 33) rfl))) ?_
  refine pg_istore3 X d_H_nearestDoor_4 ?_
  refine pg_bipush X (6) d_H_nearestDoor_5 (by decide) ?_
  refine pg_istore4 X d_H_nearestDoor_7 ?_
  have loop : ∀ f d x, d + f = nd → px_G Γ G (px_Q Γ G false K) false 0 0 9 [some (.ref zh), some (.int (nI c)), some (.int (ndS h c d).1), some (.int (ndS h c d).2), some (.int (nI (6 + d))), x] [] π := by
    intro f
    induction f with
    | zero =>
      intro d x hd
      have e6 : (6 : Int32) + nI nd = nI (6 + nd) := nI_add 6 nd
      refine pg_iload X d_H_nearestDoor_9 rfl ?_
      refine pg_bipush X (6) d_H_nearestDoor_11 (by decide) ?_
      refine pg_aload_n X d_H_nearestDoor_13 rfl ?_
      refine pg_getf X (f_H_25 hG) d_H_nearestDoor_14 (px_rd_of (by assumption)) rfl ?_
      refine pg_iadd X d_H_nearestDoor_17 ?_
      rw [e6]
      refine pg_icmp_ge X d_H_nearestDoor_18 (fun c1 => ?_) (fun c1 => ?_)
      · refine pg_iload_n X d_H_nearestDoor_54 rfl ?_
        have hd2 : d = nd := by omega
        subst hd2
        exact pg_iret X Y d_H_nearestDoor_55 rfl (by decide) (Nat.zero_le _) (Nat.zero_le _) (k)
      · simp (disch := omega) only [Int32.lt_iff_toInt_lt, Int32.le_iff_toInt_le, nI_toInt, px_l0, px_l1, px_l2, px_l3, px_l4, px_l5, px_l6, px_l10, px_l11, px_l12, px_l16, px_l30, px_l100, px_l400] at c1
        omega
    | succ f ih =>
      intro d x hd
      have e6 : (6 : Int32) + nI nd = nI (6 + nd) := nI_add 6 nd
      have er : 6 + (6 + d) = 12 + d := by omega
      refine pg_iload X d_H_nearestDoor_9 rfl ?_
      refine pg_bipush X (6) d_H_nearestDoor_11 (by decide) ?_
      refine pg_aload_n X d_H_nearestDoor_13 rfl ?_
      refine pg_getf X (f_H_25 hG) d_H_nearestDoor_14 (px_rd_of (by assumption)) rfl ?_
      refine pg_iadd X d_H_nearestDoor_17 ?_
      rw [e6]
      refine pg_icmp_ge X d_H_nearestDoor_18 (fun c1 => ?_) (fun c1 => ?_)
      · simp (disch := omega) only [Int32.lt_iff_toInt_lt, Int32.le_iff_toInt_le, nI_toInt, px_l0, px_l1, px_l2, px_l3, px_l4, px_l5, px_l6, px_l10, px_l11, px_l12, px_l16, px_l30, px_l100, px_l400] at c1
        omega
      refine pg_aload_n X d_H_nearestDoor_21 rfl ?_
      refine pg_iload X d_H_nearestDoor_22 rfl ?_
      refine pg_iload_n X d_H_nearestDoor_24 rfl ?_
      refine pc_V (ci := 0) (As := [_, _]) X Y d_H_nearestDoor_25 (c_H_79 hG) (i_H_distanceTo hG) (v_H_distanceTo hG) (fun r h => by rw [hG.2] at h; cases h; rfl) rfl rfl (Nat.le_of_ble_eq_true rfl) (by rw [hR]; exact ⟨by decide, by decide⟩) (by decide) (by decide) (by rw [hR]; first | decide | (dsimp only [px_rm]; omega)) (by rw [hR]; first | decide | (dsimp only [px_rm]; omega)) (px_rd_of (by assumption)) (t_H_distanceTo A H hn (g := 6 + d) (by omega) hc ?_)
      rw [er]
      refine pg_istore5 X d_H_nearestDoor_28 ?_
      refine pg_iload X d_H_nearestDoor_30 rfl ?_
      refine pg_iconst X (-1) d_H_nearestDoor_32 (by decide) ?_
      refine pg_icmp_eq X d_H_nearestDoor_33 (fun c2 => ?_) (fun c2 => ?_)
      · have e1 : ndS h c (d + 1) = ndS h c d := by rw [ndS, if_neg (fun q => q.1 c2)]
        refine pg_iinc4 X d_H_nearestDoor_48 ?_
        refine pg_goto X d_H_nearestDoor_51 ?_
        rw [nI_i1]
        have h7 := ih (d + 1) (some (.int (h (12 + d) c))) (by omega)
        rw [e1] at h7
        exact h7
      refine pg_iload X d_H_nearestDoor_36 rfl ?_
      refine pg_iload_n X d_H_nearestDoor_38 rfl ?_
      refine pg_icmp_ge X d_H_nearestDoor_39 (fun c3 => ?_) (fun c3 => ?_)
      · have e1 : ndS h c (d + 1) = ndS h c d := by rw [ndS, if_neg (fun q => k2_nlt c3 q.2)]
        refine pg_iinc4 X d_H_nearestDoor_48 ?_
        refine pg_goto X d_H_nearestDoor_51 ?_
        rw [nI_i1]
        have h7 := ih (d + 1) (some (.int (h (12 + d) c))) (by omega)
        rw [e1] at h7
        exact h7
      · have e1 : ndS h c (d + 1) = (nI (6 + d), h (12 + d) c) := by rw [ndS, if_pos ⟨c2, k2_lt c3⟩]
        refine pg_iload X d_H_nearestDoor_42 rfl ?_
        refine pg_istore2 X d_H_nearestDoor_44 ?_
        refine pg_iload X d_H_nearestDoor_45 rfl ?_
        refine pg_istore3 X d_H_nearestDoor_47 ?_
        refine pg_iinc4 X d_H_nearestDoor_48 ?_
        refine pg_goto X d_H_nearestDoor_51 ?_
        rw [nI_i1]
        have h7 := ih (d + 1) (some (.int (h (12 + d) c))) (by omega)
        rw [e1] at h7
        exact h7
  exact loop nd 0 none (by omega)
end HON
