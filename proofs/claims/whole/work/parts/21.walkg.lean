/-! WALK: looking, going on -/
noncomputable def px_if {α : Type} (p : Prop) (a b : α) : α := @ite α p (Classical.propDecidable p) a b
theorem px_if_t {α : Type} {p : Prop} {a b : α} (h : p) : px_if p a b = a := by unfold px_if; exact if_pos h
theorem px_if_f {α : Type} {p : Prop} {a b : α} (h : ¬ p) : px_if p a b = b := by unfold px_if; exact if_neg h
section WAG
variable {l : Launch} {G : px_Cg} {π π0 : px_H} {K : Option Value ⊕ String → px_H → Prop} {zh zw n nt nd wd ht tl : Nat} {h w : Nat → Nat → Int32}
def doneG (h w : Nat → Nat → Int32) (i t tl : Nat) : Prop := w (6 + i) 2 = 0 ∨ ∀ j, j < tl → ¬ badG h w i t j
def lk1 (w : Nat → Nat → Int32) (i : Nat) : Nat → Nat → Int32 := up2 w (6 + i) 7 (w (6 + i) 7 + 1)
def lkD (w : Nat → Nat → Int32) (i t : Nat) : Nat → Nat → Int32 :=
  let w2 := up2 w 4 t (w 4 t + 1)
  let w3 := up2 w2 (6 + i) 8 (w2 (6 + i) 8 ||| ((1 : Int32) <<< (nI t &&& 31)))
  let w4 := up2 w3 (6 + i) 9 (w3 (6 + i) 9 + 1)
  trn w4 i (-1)
noncomputable def lkW (h w : Nat → Nat → Int32) (i t tl : Nat) : Nat → Nat → Int32 := px_if (h 4 t ≤ lk1 w i (6 + i) 7 ∧ doneG h (lk1 w i) i t tl) (lkD (lk1 w i) i t) (lk1 w i)
theorem up2_v {w : Nat → Nat → Int32} {r i : Nat} {x : Int32} {j : Nat} (hj : j ≠ i) : up2 w r i x r j = w r j := up2_n (Or.inr hj)
theorem t_K_look (A : GA G) (S : SW zw zh n w h π0 π) (h0 : w 0 0 = nI tl) (htl : tl ≤ 16) {i t : Nat} (hi : i < 16) (hgo : w (6 + i) 6 = nI t) (ht : t < 6)
    (k : ∀ π1, SW zw zh n (lkW h w i t tl) h π0 π1 → K (.inl none) π1) :
    px_P l G y_K_look b_K_look 2 none (px_rm 2 45) true [.ref zw, .ref (zw + 6 + i)] π K := by
  have hG := A.1
  have hZ := A.2.1
  refine px_P.intro (by decide) hZ (by simp [Value.category]) (Nat.le_of_ble_eq_true rfl) rfl ?_
  intro Γ hl hR X Y hnm hs hbel
  subst hl
  refine pg_w ?_
  have ho := S.1.o
  have hvs := S.1.vs
  have hcr := S.1.cr
  have hsd := S.1.sd
  have hca := S.1.ca
  have hdn := S.1.dn
  have hh := S.2.1.o
  have hgc := S.2.1.gc
  have hit := S.2.1.it
  have hsy := S.2.1.sy
  have hv := S.1.v (i := i) (by first | assumption | omega)
  refine pg_aload_n X d_K_look_0 rfl ?_
  refine pg_dup X d_K_look_1 rfl ?_
  refine pg_getf X (f_K_145 hG) d_K_look_2 (px_rd_of (by assumption)) rfl ?_
  refine pg_iconst X (1) d_K_look_5 (by decide) ?_
  refine pg_iadd X d_K_look_6 ?_
  refine pw_v X hG S (f_K_145 hG) (nf_P_looked hG) d_K_look_7 (by first | assumption | omega) (by decide) (fun π1 S => ?_)
  change ∀ π1, SW zw zh n (px_if _ _ _) h π0 π1 → K (.inl none) π1 at k
  generalize hw1 : up2 w (6 + i) 7 (w (6 + i) 7 + 1) = w1 at S
  have hl1 : lk1 w i = w1 := hw1
  rw [hl1] at k
  have hgo1 : w1 (6 + i) 6 = nI t := by rw [← hw1, up2_v (by decide)]; exact hgo
  have h01 : w1 0 0 = nI tl := by rw [← hw1, up2_n (by omega)]; exact h0
  have stop : ¬ (h 4 t ≤ w1 (6 + i) 7 ∧ doneG h w1 i t tl) → px_G Γ G (px_Q Γ G true K) true 0 0 80 [some (.ref zw), some (.ref (zw + 6 + i))] [] π1 := by
    intro q
    rw [px_if_f q] at k
    exact pg_vret X Y d_K_look_80 (by decide) (Nat.zero_le _) (Nat.zero_le _) (k _ S)
  have ho := S.1.o
  have hvs := S.1.vs
  have hcr := S.1.cr
  have hsd := S.1.sd
  have hca := S.1.ca
  have hdn := S.1.dn
  have hh := S.2.1.o
  have hgc := S.2.1.gc
  have hit := S.2.1.it
  have hsy := S.2.1.sy
  have hv := S.1.v (i := i) (by first | assumption | omega)
  have hv2 := hv
  rw [hgo1] at hv2
  clear hv
  refine pg_aload_n X d_K_look_10 rfl ?_
  refine pg_getf X (f_K_145 hG) d_K_look_11 (px_rd_of (by assumption)) rfl ?_
  refine pg_aload_n X d_K_look_14 rfl ?_
  refine pg_getf X (f_K_41 hG) d_K_look_15 (px_rd_of (by assumption)) rfl ?_
  refine pg_getf X (f_K_148 hG) d_K_look_18 (px_rd_of (by assumption)) rfl ?_
  refine pg_aload_n X d_K_look_21 rfl ?_
  refine pg_getf X (f_K_119 hG) d_K_look_22 (px_rd_of (by assumption)) rfl ?_
  refine pg_ialdN X d_K_look_25 (px_rd_of (by assumption)) (by first | assumption | omega) (by first | assumption | omega) ?_
  refine pg_icmp_lt X d_K_look_26 (fun c1 => ?_) (fun c1 => ?_)
  · exact stop (fun q => k2_nlt q.1 c1)
  refine pg_aload_n X d_K_look_29 rfl ?_
  refine pg_aload_n X d_K_look_30 rfl ?_
  refine pc_V (ci := 2) (As := [_]) X Y d_K_look_31 (c_K_151 hG) (i_K_groupIsDoneWith hG) (v_K_groupIsDoneWith hG) (fun r h => by rw [hG.2] at h; cases h; rfl) rfl rfl (Nat.le_of_ble_eq_true rfl) (by rw [hR]; exact ⟨by decide, by decide⟩) (by decide) (by decide) (by rw [hR]; first | decide | (dsimp only [px_rm]; omega)) (by rw [hR]; first | decide | (dsimp only [px_rm]; omega)) (px_rd_of (by assumption)) (t_K_groupIsDoneWith A S.1 S.2.1 h01 htl hi hgo1 ht (fun c2 => ?_) (fun c2 => ?_))
  · have hdone : h 4 t ≤ w1 (6 + i) 7 ∧ doneG h w1 i t tl := ⟨k2_le c1, c2⟩
    rw [px_if_t hdone] at k
    refine pg_if_eq X d_K_look_34 (fun c3 => ?_) (fun c3 => ?_)
    · exact absurd c3 (by decide)
    refine pg_aload_n X d_K_look_37 rfl ?_
    refine pg_getf X (f_K_21 hG) d_K_look_38 (px_rd_of (by assumption)) rfl ?_
    refine pg_aload_n X d_K_look_41 rfl ?_
    refine pg_getf X (f_K_119 hG) d_K_look_42 (px_rd_of (by assumption)) rfl ?_
    refine pg_dup2 X d_K_look_45 rfl rfl ?_
    refine pg_ialdN X d_K_look_46 (px_rd_of (by assumption)) (by first | assumption | omega) (by first | assumption | omega) ?_
    refine pg_iconst X (1) d_K_look_47 (by decide) ?_
    refine pg_iadd X d_K_look_48 ?_
    refine pw_a X S (Or.inr (Or.inr (Or.inr ⟨rfl, rfl, rfl⟩))) d_K_look_49 (by first | assumption | omega) (by first | assumption | omega) (fun π1 S => ?_)
    have ho := S.1.o
    have hvs := S.1.vs
    have hcr := S.1.cr
    have hsd := S.1.sd
    have hca := S.1.ca
    have hdn := S.1.dn
    have hh := S.2.1.o
    have hgc := S.2.1.gc
    have hit := S.2.1.it
    have hsy := S.2.1.sy
    have hv := S.1.v (i := i) (by first | assumption | omega)
    have e6 : up2 w1 4 t (w1 4 t + 1) (6 + i) 6 = nI t := by rw [up2_n (by omega)]; exact hgo1
    have hv2 := hv
    rw [e6] at hv2
    clear hv
    refine pg_aload_n X d_K_look_50 rfl ?_
    refine pg_dup X d_K_look_51 rfl ?_
    refine pg_getf X (f_K_155 hG) d_K_look_52 (px_rd_of (by assumption)) rfl ?_
    refine pg_iconst X (1) d_K_look_55 (by decide) ?_
    refine pg_aload_n X d_K_look_56 rfl ?_
    refine pg_getf X (f_K_119 hG) d_K_look_57 (px_rd_of (by assumption)) rfl ?_
    refine pg_ishl X d_K_look_60 ?_
    refine pg_ior X d_K_look_61 ?_
    refine pw_v X hG S (f_K_155 hG) (nf_P_seenBits hG) d_K_look_62 (by first | assumption | omega) (by decide) (fun π1 S => ?_)
    have ho := S.1.o
    have hvs := S.1.vs
    have hcr := S.1.cr
    have hsd := S.1.sd
    have hca := S.1.ca
    have hdn := S.1.dn
    have hh := S.2.1.o
    have hgc := S.2.1.gc
    have hit := S.2.1.it
    have hsy := S.2.1.sy
    have hv := S.1.v (i := i) (by first | assumption | omega)
    refine pg_aload_n X d_K_look_65 rfl ?_
    refine pg_dup X d_K_look_66 rfl ?_
    refine pg_getf X (f_K_158 hG) d_K_look_67 (px_rd_of (by assumption)) rfl ?_
    refine pg_iconst X (1) d_K_look_70 (by decide) ?_
    refine pg_iadd X d_K_look_71 ?_
    refine pw_v X hG S (f_K_158 hG) (nf_P_seenCount hG) d_K_look_72 (by first | assumption | omega) (by decide) (fun π1 S => ?_)
    have ho := S.1.o
    have hvs := S.1.vs
    have hcr := S.1.cr
    have hsd := S.1.sd
    have hca := S.1.ca
    have hdn := S.1.dn
    have hh := S.2.1.o
    have hgc := S.2.1.gc
    have hit := S.2.1.it
    have hsy := S.2.1.sy
    have hv := S.1.v (i := i) (by first | assumption | omega)
    refine pg_aload_n X d_K_look_75 rfl ?_
    refine pg_iconst X (-1) d_K_look_76 (by decide) ?_
    refine pc_V (ci := 1) (As := [_]) X Y d_K_look_77 (c_K_93 hG) (i_P_turnTo hG) (v_P_turnTo hG) (fun r h => by rw [hG.2] at h; cases h; rfl) rfl rfl (Nat.le_of_ble_eq_true rfl) (by rw [hR]; exact ⟨by decide, by decide⟩) (by decide) (by decide) (by rw [hR]; first | decide | (dsimp only [px_rm]; omega)) (by rw [hR]; first | decide | (dsimp only [px_rm]; omega)) (px_rd_of (by assumption)) (t_turn A S hi (fun π1 S => ?_))
    exact pg_vret X Y d_K_look_80 (by decide) (Nat.zero_le _) (Nat.zero_le _) (k _ S)
  · refine pg_if_eq X d_K_look_34 (fun c3 => ?_) (fun c3 => ?_)
    · refine stop (fun q => ?_)
      rcases q.2 with q1 | q1
      · exact c2.1 q1
      · obtain ⟨j, hj, hb⟩ := c2.2
        exact q1 j hj hb
    · exact absurd rfl c3
theorem ctR_ov {op : Int32} : ∀ (f t : Nat) (r : Int32), (∃ x, x < t + f ∧ ctR h op f t r = nI x) ∨ ctR h op f t r = -1
  | 0, _, _ => Or.inr rfl
  | f + 1, t, r => by
    rw [ctR]
    split
    · rcases ctR_ov f (t + 1) r with ⟨x, h1, h2⟩ | h1
      · exact Or.inl ⟨x, by omega, h2⟩
      · exact Or.inr h1
    · split
      · exact Or.inl ⟨t, by omega, rfl⟩
      · rcases ctR_ov f (t + 1) (r - h 3 t) with ⟨x, h1, h2⟩ | h1
        · exact Or.inl ⟨x, by omega, h2⟩
        · exact Or.inr h1
theorem chT_ov {i c : Nat} : ∃ o, chT h w i c nt = px_ov o ∧ ∀ g, o = some g → g < nt := by
  unfold chT
  split
  · rcases ctR_ov (h := h) (op := (ctS h w i c nt).1) nt 0 (irm (luckV h w i) (ctS h w i c nt).2) with ⟨x, h1, h2⟩ | h1
    · exact ⟨some x, h2, fun g hg => by cases hg; omega⟩
    · exact ⟨none, h1, fun g hg => by cases hg⟩
  · exact ⟨none, rfl, fun g hg => by cases hg⟩
theorem ndS_ov {c : Nat} : ∀ d, ∃ o, (ndS h c d).1 = px_ov o ∧ ∀ g, o = some g → 6 ≤ g ∧ g < 6 + d
  | 0 => ⟨none, rfl, fun g hg => by cases hg⟩
  | d + 1 => by
    rw [ndS]
    split
    · exact ⟨some (6 + d), rfl, fun g hg => by cases hg; omega⟩
    · obtain ⟨o, h1, h2⟩ := ndS_ov (c := c) d
      exact ⟨o, h1, fun g hg => by have := h2 g hg; omega⟩
theorem chV_ov {i c : Nat} : ∃ o, chV h w i c nt nd = px_ov o ∧ ∀ g, o = some g → isG nt nd g := by
  unfold chV
  split
  · obtain ⟨o, h1, h2⟩ := chT_ov (h := h) (w := w) (nt := nt) (i := i) (c := c)
    exact ⟨o, h1, fun g hg => Or.inl (h2 g hg)⟩
  · obtain ⟨o, h1, h2⟩ := ndS_ov (h := h) (c := c) nd
    exact ⟨o, h1, fun g hg => Or.inr (h2 g hg)⟩
theorem nearC_ov {c : Nat} {r : Nat → Int32} (hw : wd ≤ 12) (hc : inC wd ht c) : ∃ o, nearC wd ht r c = px_ov o ∧ ∀ x, o = some x → inC wd ht x := by
  have aux : ∀ (f s : Nat) (nr : Int32), ∃ o, nearA wd ht r c nr f s = px_ov o ∧ ∀ x, o = some x → inC wd ht x := by
    intro f
    induction f with
    | zero => intro s nr; exact ⟨none, rfl, fun x hx => by cases hx⟩
    | succ f ih =>
      intro s nr
      rw [nearA]
      split
      · exact ⟨_, rfl, fun x hx => nbr_in hw hc hx⟩
      · exact ih (s + 1) nr
  unfold nearC
  split
  · exact ⟨none, rfl, fun x hx => by cases hx⟩
  · exact aux 4 0 _
theorem px_ov_inj {o : Option Nat} {g : Nat} (hg : g < 2 ^ 31) (h : px_ov o = nI g) (ho : ∀ x, o = some x → x < 2 ^ 31) : o = some g := by
  cases o with
  | none =>
    have h1 : (-1 : Int32) = nI g := h
    have h2 := congrArg Int32.toInt h1
    rw [nI_toInt hg] at h2
    have h3 : (-1 : Int32).toInt = -1 := by decide
    omega
  | some x =>
    have h1 : nI x = nI g := h
    rw [(nI_eq (ho x rfl) hg).mp h1]
end WAG
