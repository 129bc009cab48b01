/-! WALK: reads -/
section WAR
variable {l : Launch} {G : px_Cg} {π : px_H} {K : Option Value ⊕ String → px_H → Prop} {zh zw n nt nd wd ht tl : Nat} {h w : Nat → Nat → Int32}
def keyA (w : Nat → Nat → Int32) (tl : Nat) (g : Int32) : Nat → Nat → Int32
  | 0, _ => nI tl
  | k + 1, i => if w (6 + i) 2 = g then nI i else keyA w tl g k (i + 1)
def keyV (w : Nat → Nat → Int32) (tl : Nat) (g : Int32) : Int32 := if g = 0 then nI tl else keyA w tl g tl 0
theorem t_K_keyOf (A : GA G) (W : RW zw zh n w π) (h0 : w 0 0 = nI tl) (ht : tl ≤ 16) {g : Int32} (k : K (.inl (some (.int (keyV w tl g)))) π) :
    px_P l G y_K_keyOf b_K_keyOf 3 (some .int) (px_rm 0 0) false [.ref zw, .int g] π K := by
  have hG := A.1
  have hZ := A.2.1
  refine px_P.intro (by decide) hZ (by simp [Value.category]) (Nat.le_of_ble_eq_true rfl) rfl ?_
  intro Γ hl hR X Y hnm hs hbel
  subst hl
  have ho := W.o
  rw [h0] at ho
  have hvs := W.vs
  unfold keyV at k
  refine pg_iconst X (0) d_K_keyOf_0 (by decide) ?_
  refine pg_istore2 X d_K_keyOf_1 ?_
  have fin : ∀ i, K (.inl (some (.int (nI tl)))) π → px_G Γ G (px_Q Γ G false K) false 0 0 35 [some (.ref zw), some (.int g), some (.int (nI i))] [] π := by
    intro i k
    refine pg_aload_n X d_K_keyOf_35 rfl ?_
    refine pg_getf X (f_K_24 hG) d_K_keyOf_36 (px_rd_of (by assumption)) rfl ?_
    exact pg_iret X Y d_K_keyOf_39 rfl (by decide) (Nat.zero_le _) (Nat.zero_le _) (k)
  by_cases hg : g = 0
  · rw [if_pos hg] at k
    refine pg_iload_n X d_K_keyOf_2 rfl ?_
    refine pg_aload_n X d_K_keyOf_3 rfl ?_
    refine pg_getf X (f_K_24 hG) d_K_keyOf_4 (px_rd_of (by assumption)) rfl ?_
    refine pg_icmp_ge X d_K_keyOf_7 (fun c1 => ?_) (fun c1 => ?_)
    · exact fin 0 k
    refine pg_iload_n X d_K_keyOf_10 rfl ?_
    refine pg_if_eq X d_K_keyOf_11 (fun c2 => ?_) (fun c2 => ?_)
    · exact fin 0 k
    · exact absurd hg c2
  rw [if_neg hg] at k
  have loop : ∀ f i, i + f = tl → K (.inl (some (.int (keyA w tl g f i)))) π → px_G Γ G (px_Q Γ G false K) false 0 0 2 [some (.ref zw), some (.int g), some (.int (nI i))] [] π := by
    intro f
    induction f with
    | zero =>
      intro i hi k
      refine pg_iload_n X d_K_keyOf_2 rfl ?_
      refine pg_aload_n X d_K_keyOf_3 rfl ?_
      refine pg_getf X (f_K_24 hG) d_K_keyOf_4 (px_rd_of (by assumption)) rfl ?_
      refine pg_icmp_ge X d_K_keyOf_7 (fun c1 => ?_) (fun c1 => ?_)
      · exact fin i k
      · simp (disch := omega) only [Int32.lt_iff_toInt_lt, Int32.le_iff_toInt_le, nI_toInt, px_l0, px_l1, px_l2, px_l3, px_l4, px_l5, px_l6, px_l10, px_l11, px_l12, px_l16, px_l30, px_l100, px_l400] at c1
        omega
    | succ f ih =>
      intro i hi k
      have hv := W.v (i := i) (by omega)
      refine pg_iload_n X d_K_keyOf_2 rfl ?_
      refine pg_aload_n X d_K_keyOf_3 rfl ?_
      refine pg_getf X (f_K_24 hG) d_K_keyOf_4 (px_rd_of (by assumption)) rfl ?_
      refine pg_icmp_ge X d_K_keyOf_7 (fun c1 => ?_) (fun c1 => ?_)
      · simp (disch := omega) only [Int32.lt_iff_toInt_lt, Int32.le_iff_toInt_le, nI_toInt, px_l0, px_l1, px_l2, px_l3, px_l4, px_l5, px_l6, px_l10, px_l11, px_l12, px_l16, px_l30, px_l100, px_l400] at c1
        omega
      refine pg_iload_n X d_K_keyOf_10 rfl ?_
      refine pg_if_eq X d_K_keyOf_11 (fun c2 => ?_) (fun c2 => ?_)
      · exact absurd c2 hg
      refine pg_aload_n X d_K_keyOf_14 rfl ?_
      refine pg_getf X (f_K_11 hG) d_K_keyOf_15 (px_rd_of (by assumption)) rfl ?_
      refine pg_iload_n X d_K_keyOf_18 rfl ?_
      refine pg_aaldN X d_K_keyOf_19 (px_rd_of (by assumption)) rfl (by first | assumption | omega) (by first | assumption | omega) (by rfl) ?_
      refine pg_getf X (f_K_64 hG) d_K_keyOf_20 (px_rd_of (by assumption)) rfl ?_
      refine pg_iload_n X d_K_keyOf_23 rfl ?_
      refine pg_icmp_ne X d_K_keyOf_24 (fun c3 => ?_) (fun c3 => ?_)
      · refine pg_iinc2 X d_K_keyOf_29 ?_
        refine pg_goto X d_K_keyOf_32 ?_
        rw [nI_i1]
        rw [keyA, if_neg c3] at k
        exact ih (i + 1) (by omega) k
      · refine pg_iload_n X d_K_keyOf_27 rfl ?_
        rw [keyA, if_pos c3] at k
        exact pg_iret X Y d_K_keyOf_28 rfl (by decide) (Nat.zero_le _) (Nat.zero_le _) (k)
  exact loop tl 0 (by omega) k
def dueC (w : Nat → Nat → Int32) (e : Int32) : Nat → Int32
  | 0 => 0
  | i + 1 => if w (6 + i) 0 < e then dueC w e i + 1 else dueC w e i
theorem t_K_dueBefore (A : GA G) (W : RW zw zh n w π) (h0 : w 0 0 = nI tl) (ht : tl ≤ 16) {e : Int32} (k : K (.inl (some (.int (dueC w e tl)))) π) :
    px_P l G y_K_dueBefore b_K_dueBefore 4 (some .int) (px_rm 0 0) false [.ref zw, .int e] π K := by
  have hG := A.1
  have hZ := A.2.1
  refine px_P.intro (by decide) hZ (by simp [Value.category]) (Nat.le_of_ble_eq_true rfl) rfl ?_
  intro Γ hl hR X Y hnm hs hbel
  subst hl
  have ho := W.o
  rw [h0] at ho
  have hvs := W.vs
  refine pg_iconst X (0) d_K_dueBefore_0 (by decide) ?_
  refine pg_istore2 X d_K_dueBefore_1 ?_
  refine pg_iconst X (0) d_K_dueBefore_2 (by decide) ?_
  refine pg_istore3 X d_K_dueBefore_3 ?_
  have loop : ∀ f i, i + f = tl → px_G Γ G (px_Q Γ G false K) false 0 0 4 [some (.ref zw), some (.int e), some (.int (dueC w e i)), some (.int (nI i))] [] π := by
    intro f
    induction f with
    | zero =>
      intro i hi
      refine pg_iload_n X d_K_dueBefore_4 rfl ?_
      refine pg_aload_n X d_K_dueBefore_5 rfl ?_
      refine pg_getf X (f_K_24 hG) d_K_dueBefore_6 (px_rd_of (by assumption)) rfl ?_
      refine pg_icmp_ge X d_K_dueBefore_9 (fun c1 => ?_) (fun c1 => ?_)
      · refine pg_iload_n X d_K_dueBefore_34 rfl ?_
        have e1 : i = tl := by omega
        subst e1
        exact pg_iret X Y d_K_dueBefore_35 rfl (by decide) (Nat.zero_le _) (Nat.zero_le _) (k)
      · simp (disch := omega) only [Int32.lt_iff_toInt_lt, Int32.le_iff_toInt_le, nI_toInt, px_l0, px_l1, px_l2, px_l3, px_l4, px_l5, px_l6, px_l10, px_l11, px_l12, px_l16, px_l30, px_l100, px_l400] at c1
        omega
    | succ f ih =>
      intro i hi
      have hv := W.v (i := i) (by omega)
      refine pg_iload_n X d_K_dueBefore_4 rfl ?_
      refine pg_aload_n X d_K_dueBefore_5 rfl ?_
      refine pg_getf X (f_K_24 hG) d_K_dueBefore_6 (px_rd_of (by assumption)) rfl ?_
      refine pg_icmp_ge X d_K_dueBefore_9 (fun c1 => ?_) (fun c1 => ?_)
      · simp (disch := omega) only [Int32.lt_iff_toInt_lt, Int32.le_iff_toInt_le, nI_toInt, px_l0, px_l1, px_l2, px_l3, px_l4, px_l5, px_l6, px_l10, px_l11, px_l12, px_l16, px_l30, px_l100, px_l400] at c1
        omega
      refine pg_aload_n X d_K_dueBefore_12 rfl ?_
      refine pg_getf X (f_K_11 hG) d_K_dueBefore_13 (px_rd_of (by assumption)) rfl ?_
      refine pg_iload_n X d_K_dueBefore_16 rfl ?_
      refine pg_aaldN X d_K_dueBefore_17 (px_rd_of (by assumption)) rfl (by first | assumption | omega) (by first | assumption | omega) (by rfl) ?_
      refine pg_getf X (f_K_58 hG) d_K_dueBefore_18 (px_rd_of (by assumption)) rfl ?_
      refine pg_iload_n X d_K_dueBefore_21 rfl ?_
      have h7 := ih (i + 1) (by omega)
      refine pg_icmp_ge X d_K_dueBefore_22 (fun c2 => ?_) (fun c2 => ?_)
      · refine pg_iinc3 X d_K_dueBefore_28 ?_
        refine pg_goto X d_K_dueBefore_31 ?_
        rw [nI_i1]
        rw [dueC, if_neg (k2_nlt c2)] at h7
        exact h7
      · refine pg_iinc2 X d_K_dueBefore_25 ?_
        refine pg_iinc3 X d_K_dueBefore_28 ?_
        refine pg_goto X d_K_dueBefore_31 ?_
        rw [nI_i1]
        rw [dueC, if_pos (k2_lt c2)] at h7
        exact h7
  exact loop tl 0 (by omega)
theorem t_K_hasRoom (A : GA G) (W : RW zw zh n w π) (H : RH zh n h π) (hn : n < 2 ^ 31) {c : Nat} (hc : c < n) (k1 : w 1 c < h 0 5 → K (.inl (some (.int 1))) π) (k0 : ¬ w 1 c < h 0 5 → K (.inl (some (.int 0))) π) :
    px_P l G y_K_hasRoom b_K_hasRoom 2 (some .boolean) (px_rm 0 0) false [.ref zw, .int (nI c)] π K := by
  have hG := A.1
  have hZ := A.2.1
  refine px_P.intro (by decide) hZ (by simp [Value.category]) (Nat.le_of_ble_eq_true rfl) rfl ?_
  intro Γ hl hR X Y hnm hs hbel
  subst hl
  have ho := W.o
  have hcr := W.cr
  have hh := H.o
  refine pg_iload_n X d_K_hasRoom_0 rfl ?_
  refine pg_if_lt X d_K_hasRoom_1 (fun c1 => ?_) (fun c1 => ?_)
  · simp (disch := omega) only [Int32.lt_iff_toInt_lt, Int32.le_iff_toInt_le, nI_toInt, px_l0, px_l1, px_l2, px_l3, px_l4, px_l5, px_l6, px_l10, px_l11, px_l12, px_l16, px_l30, px_l100, px_l400] at c1
    omega
  refine pg_iload_n X d_K_hasRoom_4 rfl ?_
  refine pg_aload_n X d_K_hasRoom_5 rfl ?_
  refine pg_getf X (f_K_51 hG) d_K_hasRoom_6 (px_rd_of (by assumption)) rfl ?_
  refine pg_alen X d_K_hasRoom_9 (px_rd_of (by assumption)) ?_
  refine pg_icmp_ge X d_K_hasRoom_10 (fun c2 => ?_) (fun c2 => ?_)
  · simp (disch := omega) only [Int32.lt_iff_toInt_lt, Int32.le_iff_toInt_le, nI_toInt, px_l0, px_l1, px_l2, px_l3, px_l4, px_l5, px_l6, px_l10, px_l11, px_l12, px_l16, px_l30, px_l100, px_l400] at c2
    omega
  refine pg_aload_n X d_K_hasRoom_13 rfl ?_
  refine pg_getf X (f_K_51 hG) d_K_hasRoom_14 (px_rd_of (by assumption)) rfl ?_
  refine pg_iload_n X d_K_hasRoom_17 rfl ?_
  refine pg_ialdN X d_K_hasRoom_18 (px_rd_of (by assumption)) (by first | assumption | omega) (by first | assumption | omega) ?_
  refine pg_aload_n X d_K_hasRoom_19 rfl ?_
  refine pg_getf X (f_K_41 hG) d_K_hasRoom_20 (px_rd_of (by assumption)) rfl ?_
  refine pg_getf X (f_K_109 hG) d_K_hasRoom_23 (px_rd_of (by assumption)) rfl ?_
  refine pg_icmp_ge X d_K_hasRoom_26 (fun c3 => ?_) (fun c3 => ?_)
  · refine pg_iconst X (0) d_K_hasRoom_33 (by decide) ?_
    exact pg_iret X Y d_K_hasRoom_34 rfl (by decide) (Nat.zero_le _) (Nat.zero_le _) (k0 (k2_nlt c3))
  · refine pg_iconst X (1) d_K_hasRoom_29 (by decide) ?_
    refine pg_goto X d_K_hasRoom_30 ?_
    exact pg_iret X Y d_K_hasRoom_34 rfl (by decide) (Nat.zero_le _) (Nat.zero_le _) (k1 (k2_lt c3))
theorem t_K_hasRoomN (A : GA G) (W : RW zw zh n w π) {x : Int32} (hx : x < 0) (k0 : K (.inl (some (.int 0))) π) :
    px_P l G y_K_hasRoom b_K_hasRoom 2 (some .boolean) (px_rm 0 0) false [.ref zw, .int x] π K := by
  have hG := A.1
  have hZ := A.2.1
  refine px_P.intro (by decide) hZ (by simp [Value.category]) (Nat.le_of_ble_eq_true rfl) rfl ?_
  intro Γ hl hR X Y hnm hs hbel
  subst hl
  refine pg_iload_n X d_K_hasRoom_0 rfl ?_
  refine pg_if_lt X d_K_hasRoom_1 (fun c1 => ?_) (fun c1 => ?_)
  · refine pg_iconst X (0) d_K_hasRoom_33 (by decide) ?_
    exact pg_iret X Y d_K_hasRoom_34 rfl (by decide) (Nat.zero_le _) (Nat.zero_le _) (k0)
  · exact absurd hx c1
def irm (x y : Int32) : Int32 := x - x / y * y
def lst (z : Int32) : Int32 := irm (75 * z + 74) 65537
def luckV (h w : Nat → Nat → Int32) (i : Nat) : Int32 := lst (lst (lst (irm (h 0 2 + 7919 * w (6 + i) 3 + 101 * w (6 + i) 9) 65537)))
theorem t_K_luck (A : GA G) (W : RW zw zh n w π) (H : RH zh n h π) {i : Nat} (hi : i < 16) (k : K (.inl (some (.int (luckV h w i)))) π) :
    px_P l G y_K_luck b_K_luck 4 (some .int) (px_rm 0 0) false [.ref zw, .ref (zw + 6 + i)] π K := by
  have hG := A.1
  have hZ := A.2.1
  refine px_P.intro (by decide) hZ (by simp [Value.category]) (Nat.le_of_ble_eq_true rfl) rfl ?_
  intro Γ hl hR X Y hnm hs hbel
  subst hl
  have ho := W.o
  have hv := W.v hi
  have hh := H.o
  refine pg_aload_n X d_K_luck_0 rfl ?_
  refine pg_getf X (f_K_41 hG) d_K_luck_1 (px_rd_of (by assumption)) rfl ?_
  refine pg_getf X (f_K_182 hG) d_K_luck_4 (px_rd_of (by assumption)) rfl ?_
  refine pg_sipush X (7919) d_K_luck_7 (by decide) ?_
  refine pg_aload_n X d_K_luck_10 rfl ?_
  refine pg_getf X (f_K_71 hG) d_K_luck_11 (px_rd_of (by assumption)) rfl ?_
  refine pg_imul X d_K_luck_14 ?_
  refine pg_iadd X d_K_luck_15 ?_
  refine pg_bipush X (101) d_K_luck_16 (by decide) ?_
  refine pg_aload_n X d_K_luck_18 rfl ?_
  refine pg_getf X (f_K_158 hG) d_K_luck_19 (px_rd_of (by assumption)) rfl ?_
  refine pg_imul X d_K_luck_22 ?_
  refine pg_iadd X d_K_luck_23 ?_
  refine pg_ldc X (65537) d_K_luck_24 (hG.t (lm_2 (List.mem_of_getElem? (i := 28) rfl))) ?_
  refine pg_irem X d_K_luck_26 (by decide) ?_
  refine pg_istore2 X d_K_luck_27 ?_
  refine pg_iconst X (0) d_K_luck_28 (by decide) ?_
  refine pg_istore3 X d_K_luck_29 ?_
  refine pg_iload_n X d_K_luck_30 rfl ?_
  refine pg_iconst X (3) d_K_luck_31 (by decide) ?_
  refine pg_icmp_ge X d_K_luck_32 (fun c => ?_) (fun c => ?_)
  · exact absurd c (by decide)
  refine pg_bipush X (75) d_K_luck_35 (by decide) ?_
  refine pg_iload_n X d_K_luck_37 rfl ?_
  refine pg_imul X d_K_luck_38 ?_
  refine pg_bipush X (74) d_K_luck_39 (by decide) ?_
  refine pg_iadd X d_K_luck_41 ?_
  refine pg_ldc X (65537) d_K_luck_42 (hG.t (lm_2 (List.mem_of_getElem? (i := 28) rfl))) ?_
  refine pg_irem X d_K_luck_44 (by decide) ?_
  refine pg_istore2 X d_K_luck_45 ?_
  refine pg_iinc3 X d_K_luck_46 ?_
  refine pg_goto X d_K_luck_49 ?_
  refine pg_iload_n X d_K_luck_30 rfl ?_
  refine pg_iconst X (3) d_K_luck_31 (by decide) ?_
  refine pg_icmp_ge X d_K_luck_32 (fun c => ?_) (fun c => ?_)
  · exact absurd c (by decide)
  refine pg_bipush X (75) d_K_luck_35 (by decide) ?_
  refine pg_iload_n X d_K_luck_37 rfl ?_
  refine pg_imul X d_K_luck_38 ?_
  refine pg_bipush X (74) d_K_luck_39 (by decide) ?_
  refine pg_iadd X d_K_luck_41 ?_
  refine pg_ldc X (65537) d_K_luck_42 (hG.t (lm_2 (List.mem_of_getElem? (i := 28) rfl))) ?_
  refine pg_irem X d_K_luck_44 (by decide) ?_
  refine pg_istore2 X d_K_luck_45 ?_
  refine pg_iinc3 X d_K_luck_46 ?_
  refine pg_goto X d_K_luck_49 ?_
  refine pg_iload_n X d_K_luck_30 rfl ?_
  refine pg_iconst X (3) d_K_luck_31 (by decide) ?_
  refine pg_icmp_ge X d_K_luck_32 (fun c => ?_) (fun c => ?_)
  · exact absurd c (by decide)
  refine pg_bipush X (75) d_K_luck_35 (by decide) ?_
  refine pg_iload_n X d_K_luck_37 rfl ?_
  refine pg_imul X d_K_luck_38 ?_
  refine pg_bipush X (74) d_K_luck_39 (by decide) ?_
  refine pg_iadd X d_K_luck_41 ?_
  refine pg_ldc X (65537) d_K_luck_42 (hG.t (lm_2 (List.mem_of_getElem? (i := 28) rfl))) ?_
  refine pg_irem X d_K_luck_44 (by decide) ?_
  refine pg_istore2 X d_K_luck_45 ?_
  refine pg_iinc3 X d_K_luck_46 ?_
  refine pg_goto X d_K_luck_49 ?_
  refine pg_iload_n X d_K_luck_30 rfl ?_
  refine pg_iconst X (3) d_K_luck_31 (by decide) ?_
  refine pg_icmp_ge X d_K_luck_32 (fun c => ?_) (fun c => ?_)
  · refine pg_iload_n X d_K_luck_52 rfl ?_
    exact pg_iret X Y d_K_luck_53 rfl (by decide) (Nat.zero_le _) (Nat.zero_le _) (k)
  · exact absurd c (by decide)
end WAR
