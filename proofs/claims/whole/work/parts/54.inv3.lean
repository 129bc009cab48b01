/-! THE WALK'S INVARIANT: a second -/
section IN3
variable {h w w' : Nat → Nat → Int32} {n nt nd wd ht c v tl o g t d : Nat} {x : Int32}
theorem chV_t (HI : hIN h nt) (hnt : nt ≤ 6) (hnd : nd ≤ 4) : ∀ t, t < 6 → chV h w v c nt nd = nI t → px_sb (w (6 + v) 8) (nI t) = 0 := by
  intro t ht e
  unfold chV at e
  split at e
  · rename_i q
    rcases chT_ok (w := w) (v := v) (c := c) HI hnt with q2 | ⟨s, s1, s2, s3⟩
    · exact absurd q2 q.2
    · rw [s2] at e
      have := (nI_eq (by omega) (by omega)).mp e
      rw [← this]
      exact s3.1
  · rcases ndS_inv (h := h) (c := c) nd with q | ⟨e', e1, e2, e3⟩
    · rw [q] at e
      exact absurd e.symm (nI_nm1 (by omega))
    · rw [e2] at e
      have := (nI_eq (by omega) (by omega)).mp e
      omega
theorem INV.ga (I : INV w wd ht nt nd tl) (HI : hIN h nt) (hnt : nt ≤ 6) (hnd : nd ≤ 4) (hv : v < tl) (h1 : w (6 + v) 4 = 1) : INV (goA h w v nt nd) wd ht nt nd tl := by
  have hF := goA_F (h := h) I.1 (i := v)
  unfold goA at hF ⊢
  by_cases q : dG h w v = -1
  · rw [if_pos q] at hF ⊢
    exact I.turn hF hv h1 (chV_t HI hnt hnd)
  · rw [if_neg q]
    exact I
theorem INV.gb (I : INV w wd ht nt nd tl) (B : HG h wd ht nt nd n) (hv : v < tl) (h1 : w (6 + v) 4 = 1) : INV (goB h w v wd ht tl) wd ht nt nd tl := by
  obtain ⟨⟨b0, b1, b2, b3, b4, b5, b6, b7, b8, b9⟩, BD⟩ := id B
  obtain ⟨⟨c, hc1, hc2⟩, ⟨o, ho1, ho2⟩, -⟩ := I.1.2.2 v hv
  have hcl := inC_lt hc2
  have hcl2 := inC_144 b4.2 b5.2 hc2
  have hF := goB_F (h := h) I.1 b4.2 b5.2 hv
  unfold goB at hF ⊢
  cases o with
  | none =>
    rw [if_pos (show w (6 + v) 6 = -1 from ho1)]
    exact I
  | some g =>
    have g0 : w (6 + v) 6 = nI g := ho1
    have hg := ho2 g rfl
    have hg10 := isG_10 b6 b7 hg
    have ec : (w (6 + v) 5).toNatClampNeg = c := by rw [hc1, nI_clamp (by omega)]
    have eg : (w (6 + v) 6).toNatClampNeg = g := by rw [g0, nI_clamp (by omega)]
    rw [ec, eg, if_neg (by rw [g0]; exact nI_nm1 (by omega))] at hF ⊢
    by_cases q : h 2 g = w (6 + v) 5
    · rw [if_pos q] at hF ⊢
      by_cases q6 : 6 ≤ g
      · rw [if_pos q6] at hF ⊢
        obtain ⟨d, rfl⟩ : ∃ d, g = 6 + d := ⟨g - 6, by omega⟩
        exact I.out hF hv h1 hc1 hcl2 b5.2
      · rw [if_neg q6] at hF ⊢
        have hF1 : WF (lk1 w v) wd ht nt nd tl := I.1.uv (by decide) (by decide) (by decide)
        unfold lkW at hF ⊢
        have I1 := I.lkk hF1
        by_cases ql : h 4 g ≤ lk1 w v (6 + v) 7 ∧ doneG h (lk1 w v) v g tl
        · rw [px_if_t ql] at hF ⊢
          exact I1.lkd hF hv (by omega) (by rw [lk1_j (by decide)]; exact h1) (by rw [lk1_j (by decide)]; exact g0)
        · rw [px_if_f ql]
          exact I1
    · rw [if_neg q] at hF ⊢
      obtain ⟨c0, d1, d2, d3⟩ := BD g hg
      unfold stI at hF ⊢
      by_cases qn : nearC wd ht (h (6 + g)) c < 0
      · rw [if_pos qn]
        exact I
      · rw [if_neg qn] at hF ⊢
        by_cases qr : w 1 (nearC wd ht (h (6 + g)) c).toNatClampNeg < h 0 5
        · rw [if_pos qr] at hF ⊢
          have hne : ¬ h (6 + g) c = -1 := fun e => qn (by unfold nearC; rw [e, if_pos (by decide)]; decide)
          obtain ⟨j, j1, j2, -, -⟩ := d3.2.1 c hcl hne
          cases j with
          | zero =>
            refine absurd ?_ q
            rw [d1, hc1, d3.2.2.2.1 c hcl j2]
          | succ j =>
            have nr := near_1 b4.2 b5.2 d3 hc2 (by omega) j2
            have on2 := inC_144 b4.2 b5.2 nr.2.1
            rw [nr.1, nI_clamp (by omega)] at hF ⊢
            refine I.step hF hv h1 hc1 hcl2 on2 (fun e => ?_) b5.2
            have e2 := nr.2.2
            rw [← e, j2] at e2
            have := (nI_eq (by omega) (by omega)).mp e2
            omega
        · rw [if_neg qr]
          exact I
theorem goA_v {j : Nat} (h6 : j ≠ 6) (h7 : j ≠ 7) {u : Nat} : goA h w v nt nd (6 + u) j = w (6 + u) j := by
  unfold goA
  split
  · by_cases q : u = v
    · rw [q, trn_j h6 h7]
    · rw [trn_o q]
  · rfl
theorem INV.gw (I : INV w wd ht nt nd tl) (B : HG h wd ht nt nd n) (HI : hIN h nt) (hv : v < tl) (h1 : w (6 + v) 4 = 1) : INV (goW h w v wd ht nt nd tl) wd ht nt nd tl := by
  obtain ⟨⟨b0, b1, b2, b3, b4, b5, b6, b7, b8, b9⟩, BD⟩ := id B
  exact (I.ga HI b6 b7 hv h1).gb B hv (by rw [goA_v (by decide) (by decide)]; exact h1)
/-- what a visitor's turn leaves: told, now, flight; seconds, doors, groups, keys -/
def kpt (w w' : Nat → Nat → Int32) : Prop := w' 0 0 = w 0 0 ∧ w' 0 1 = w 0 1 ∧ w' 0 4 = w 0 4 ∧ ∀ u j, j < 4 → w' (6 + u) j = w (6 + u) j
theorem kpt.rf : kpt w w := ⟨rfl, rfl, rfl, fun _ _ _ => rfl⟩
theorem kpt.tr {w2 : Nat → Nat → Int32} (a : kpt w w') (b : kpt w' w2) : kpt w w2 := ⟨b.1.trans a.1, b.2.1.trans a.2.1, b.2.2.1.trans a.2.2.1, fun u j hj => (b.2.2.2 u j hj).trans (a.2.2.2 u j hj)⟩
theorem kpt.vv {j : Nat} (hj : 4 ≤ j) : kpt w (up2 w (6 + v) j x) := ⟨up2_n (by omega), up2_n (by omega), up2_n (by omega), fun u i hi => up2_n (by omega)⟩
theorem kpt.aa {r j : Nat} (hr : 1 ≤ r ∧ r ≤ 5) : kpt w (up2 w r j x) := ⟨up2_n (by omega), up2_n (by omega), up2_n (by omega), fun u i hi => up2_n (by omega)⟩
theorem kpt.ss {j : Nat} (hj : j = 2 ∨ j = 3) : kpt w (up2 w 0 j x) := ⟨up2_n (by omega), up2_n (by omega), up2_n (by omega), fun u i hi => up2_n (by omega)⟩
theorem kpt.tt : kpt w (trn w v x) := (kpt.vv (by decide)).tr (kpt.vv (by decide))
theorem kpt.ga : kpt w (goA h w v nt nd) := by
  unfold goA
  split
  · exact kpt.tt
  · exact kpt.rf
theorem kpt.gb : kpt w (goB h w v wd ht tl) := by
  unfold goB
  split
  · exact kpt.rf
  split
  · split
    · simp only [outW]
      exact (((((kpt.aa (by decide)).tr (kpt.aa (by decide))).tr (kpt.ss (by decide))).tr (kpt.ss (by decide))).tr (kpt.vv (by decide))).tr kpt.tt
    · unfold lkW px_if
      split
      · simp only [lkD]
        exact (((((kpt.vv (by decide) : kpt w (lk1 w v)).tr (kpt.aa (by decide))).tr (kpt.vv (by decide))).tr (kpt.vv (by decide)))).tr kpt.tt
      · exact kpt.vv (by decide)
  · unfold stI
    split
    · exact kpt.rf
    split
    · simp only [stW]
      exact ((kpt.aa (by decide)).tr (kpt.aa (by decide))).tr (kpt.vv (by decide))
    · exact kpt.rf
theorem kpt.gw : kpt w (goW h w v wd ht nt nd tl) := kpt.ga.tr kpt.gb
theorem kpt.inn : kpt w (inW w v c g) := by
  simp only [inW]
  exact ((((kpt.vv (by decide)).tr (kpt.vv (by decide))).tr (kpt.aa (by decide))).tr (kpt.ss (by decide))).tr (kpt.aa (by decide))
theorem kpt.ps : kpt w (psI h wd ht nt nd tl v w) := by
  unfold psI
  split
  · exact kpt.gw
  split
  · split
    · exact kpt.inn
    · exact kpt.rf
  · exact kpt.rf
theorem INV.ps (I : INV w wd ht nt nd tl) (B : HG h wd ht nt nd n) (HI : hIN h nt) (hv : v < tl) : INV (psI h wd ht nt nd tl v w) wd ht nt nd tl := by
  obtain ⟨⟨b0, b1, b2, b3, b4, b5, b6, b7, b8, b9⟩, BD⟩ := id B
  have hF := psI_F B.1 I.1 hv
  unfold psI at hF ⊢
  by_cases q1 : w (6 + v) 4 = 1
  · rw [if_pos q1]
    exact I.gw B HI hv q1
  rw [if_neg q1] at hF ⊢
  by_cases q2 : w (6 + v) 4 = 0 ∧ w (6 + v) 0 ≤ w 0 1 ∧ w 0 4 = 0
  · rw [if_pos q2] at hF ⊢
    by_cases q3 : w 1 (h 2 (w (6 + v) 1).toNatClampNeg).toNatClampNeg < h 0 5
    · rw [if_pos q3] at hF ⊢
      obtain ⟨-, -, d, d1, d2⟩ := I.1.2.2 v hv
      obtain ⟨c, c1, c2⟩ := b9 (6 + d) (Or.inr (by omega))
      have hc144 := inC_144 b4.2 b5.2 c2
      rw [d1, nI_clamp (by omega), c1, nI_clamp (by omega)] at hF ⊢
      exact I.inn hF hv q2.1 hc144 b5.2
    · rw [if_neg q3]
      exact I
  · rw [if_neg q2]
    exact I
theorem INV.row {j : Nat} (I : INV w wd ht nt nd tl) : INV (up2 w 2 j x) wd ht nt nd tl := by
  obtain ⟨i1, i2, i3, i4, i5, i6⟩ := I
  have r : ∀ u, up2 w 2 j x (6 + u) = w (6 + u) := fun u => up2_r (by omega)
  refine ⟨i1.ua (by decide) (by decide), fun z hz => (i2 z hz).cong (fun u => by rw [r]) (fun u => by rw [r]) (r z), fun a ha => ?_, ?_, ?_, fun t ht => ?_⟩
  · rw [up2_r (by decide), i3 a ha]
    simp only [r]
  · rw [up2_r (by decide), i4]
    simp only [r]
  · rw [up2_r (by decide), i5]
    simp only [r]
  · rw [up2_r (by decide), i6 t ht]
    simp only [r]
theorem INV.now (I : INV w wd ht nt nd tl) : INV (up2 w 0 1 x) wd ht nt nd tl := by
  obtain ⟨i1, i2, i3, i4, i5, i6⟩ := I
  have r : ∀ u, up2 w 0 1 x (6 + u) = w (6 + u) := fun u => up2_r (by omega)
  refine ⟨i1.u0 (by decide), fun z hz => (i2 z hz).cong (fun u => by rw [r]) (fun u => by rw [r]) (r z), fun a ha => ?_, ?_, ?_, fun t ht => ?_⟩
  · rw [up2_r (by decide), i3 a ha]
    simp only [r]
  · rw [up2_n (by decide), i4]
    simp only [r]
  · rw [up2_n (by decide), i5]
    simp only [r]
  · rw [up2_r (by decide), i6 t ht]
    simp only [r]
end IN3
