/-! THE WALK'S INVARIANT: going out, looking, coming in -/
section IN2
variable {h w w' : Nat → Nat → Int32} {n nt nd wd ht c v tl o g t d : Nat} {x : Int32}
theorem outW_1 {a : Nat} : outW w v c g 1 a = up2 w 1 c (w 1 c - 1) 1 a := by
  simp only [outW]
  rw [trn_r (by omega), up2_r (by omega), up2_r (by decide), up2_r (by decide)]
  by_cases q : a = c
  · rw [q, up2_s, up2_s, up2_r (by decide)]
  · rw [up2_n (Or.inr q), up2_n (Or.inr q), up2_r (by decide)]
theorem outW_02 : outW w v c g 0 2 = w 0 2 - 1 := by
  simp only [outW]
  rw [trn_0, up2_r (by omega), up2_n (Or.inr (by decide)), up2_s, up2_r (by decide), up2_r (by decide)]
theorem outW_03 : outW w v c g 0 3 = w 0 3 + 1 := by
  simp only [outW]
  rw [trn_0, up2_r (by omega), up2_s, up2_n (Or.inr (by decide)), up2_r (by decide), up2_r (by decide)]
theorem INV.out (I : INV w wd ht nt nd tl) (hF : WF (outW w v c (6 + d)) wd ht nt nd tl) (hv : v < tl) (h1 : w (6 + v) 4 = 1) (hc : w (6 + v) 5 = nI c) (hc2 : c < 144) (hht : ht ≤ 12) : INV (outW w v c (6 + d)) wd ht nt nd tl := by
  obtain ⟨i1, i2, i3, i4, i5, i6⟩ := I
  have rows : ∀ z j, j ≠ 4 → j ≠ 6 → j ≠ 7 → outW w v c (6 + d) (6 + z) j = w (6 + z) j := fun z j h4 h6 h7 => by
    by_cases q : z = v
    · rw [q, outW_j h4 h6 h7]
    · rw [outW_r (by omega) (by omega) (by omega) (by omega)]
  have oth : ∀ z, z ≠ v → outW w v c (6 + d) (6 + z) = w (6 + z) := fun z q => outW_r (by omega) (by omega) (by omega) (by omega)
  refine ⟨hF, fun z hz => ?_, fun a ha => ?_, ?_, ?_, fun t ht => ?_⟩
  · by_cases q : z = v
    · obtain ⟨v1, v2, v3, v4, v5, v6, v7⟩ := i2 z hz
      have k2 := v2.cong (w' := outW w v c (6 + d)) (fun u => rows u 2 (by decide) (by decide) (by decide)) (fun u => rows u 3 (by decide) (by decide) (by decide))
      unfold VI
      rw [rows z 2 (by decide) (by decide) (by decide), rows z 8 (by decide) (by decide) (by decide), rows z 9 (by decide) (by decide) (by decide)]
      subst q
      rw [outW_4, outW_6]
      exact ⟨v1, k2, Or.inr (Or.inr rfl), v4, v5, fun t ht q => absurd q.symm (nI_nm1 (by omega)), fun _ => rfl⟩
    · exact (i2 z hz).cong (fun u => rows u 2 (by decide) (by decide) (by decide)) (fun u => rows u 3 (by decide) (by decide) (by decide)) (oth z q)
  · rw [outW_1]
    have others : ∀ u, u ≠ v → ((outW w v c (6 + d) (6 + u) 4 = 1 ∧ outW w v c (6 + d) (6 + u) 5 = nI a) ↔ (w (6 + u) 4 = 1 ∧ w (6 + u) 5 = nI a)) := fun u q => by rw [oth u q]
    by_cases qc : a = c
    · subst qc
      rw [up2_s, i3 a ha]
      have := cn_up (v := v) (p := fun u => outW w v a (6 + d) (6 + u) 4 = 1 ∧ outW w v a (6 + d) (6 + u) 5 = nI a) (q := fun u => w (6 + u) 4 = 1 ∧ w (6 + u) 5 = nI a) (fun q => by
        have q2 := q.1
        rw [outW_4] at q2
        exact absurd q2 (by decide)) ⟨h1, hc⟩ others tl hv
      rw [this, nI_m1]
    · rw [up2_n (Or.inr qc), i3 a ha]
      congr 1
      refine cn_cong tl (fun u hu => ?_)
      by_cases q : u = v
      · subst q
        rw [hc, outW_4]
        exact ⟨fun q => absurd ((nI_eq (by omega) (by omega)).mp q.2).symm qc, fun q => absurd q.1 (by decide)⟩
      · exact (others u q).symm
  · rw [outW_02, i4]
    have := cn_up (v := v) (p := fun u => outW w v c (6 + d) (6 + u) 4 = 1) (q := fun u => w (6 + u) 4 = 1) (fun q => by
      rw [outW_4] at q
      exact absurd q (by decide)) h1 (fun u q => by rw [oth u q]) tl hv
    rw [this, nI_m1]
  · rw [outW_03, i5]
    have := cn_up (v := v) (q := fun u => outW w v c (6 + d) (6 + u) 4 = 2) (p := fun u => w (6 + u) 4 = 2) (fun q => by
      rw [h1] at q
      exact absurd q (by decide)) outW_4 (fun u q => by rw [oth u q]) tl hv
    rw [this]
    exact nI_1 _
  · rw [outW_4n (by omega), i6 t ht]
    exact sno_cong tl (fun u hu => by rw [rows u 8 (by decide) (by decide) (by decide)])
theorem INV.lkk (I : INV w wd ht nt nd tl) (hF : WF (lk1 w v) wd ht nt nd tl) : INV (lk1 w v) wd ht nt nd tl := by
  obtain ⟨i1, i2, i3, i4, i5, i6⟩ := I
  have row : ∀ z j, j ≠ 7 → lk1 w v (6 + z) j = w (6 + z) j := fun z j hj => by
    by_cases q : z = v
    · rw [q, lk1_j hj]
    · rw [lk1_o (by omega)]
  refine ⟨hF, fun z hz => ?_, fun a ha => ?_, ?_, ?_, fun t ht => ?_⟩
  · obtain ⟨v1, v2, v3⟩ := i2 z hz
    have k2 := v2.cong (w' := lk1 w v) (fun u => row u 2 (by decide)) (fun u => row u 3 (by decide))
    unfold VI
    rw [row z 2 (by decide), row z 4 (by decide), row z 6 (by decide), row z 8 (by decide), row z 9 (by decide)]
    exact ⟨v1, k2, v3⟩
  · rw [lk1_o (by omega), i3 a ha]
    congr 1
    exact cn_cong tl (fun u hu => by rw [row u 4 (by decide), row u 5 (by decide)])
  · rw [lk1_o (by omega), i4]
    congr 1
    exact cn_cong tl (fun u hu => by rw [row u 4 (by decide)])
  · rw [lk1_o (by omega), i5]
    congr 1
    exact cn_cong tl (fun u hu => by rw [row u 4 (by decide)])
  · rw [lk1_o (by omega), i6 t ht]
    exact sno_cong tl (fun u hu => by rw [row u 8 (by decide)])
theorem INV.lkd (I : INV w wd ht nt nd tl) (hF : WF (lkD w v t) wd ht nt nd tl) (hv : v < tl) (ht6 : t < 6) (h1 : w (6 + v) 4 = 1) (hgo : w (6 + v) 6 = nI t) : INV (lkD w v t) wd ht nt nd tl := by
  obtain ⟨i1, i2, i3, i4, i5, i6⟩ := I
  have rows : ∀ z j, j ≠ 6 → j ≠ 7 → j ≠ 8 → j ≠ 9 → lkD w v t (6 + z) j = w (6 + z) j := fun z j h6 h7 h8 h9 => by
    by_cases q : z = v
    · rw [q, lkD_j h6 h7 h8 h9]
    · rw [lkD_r (by omega) (by omega)]
  have oth : ∀ z, z ≠ v → lkD w v t (6 + z) = w (6 + z) := fun z q => lkD_r (by omega) (by omega)
  obtain ⟨-, -, -, ⟨b, b1, b2⟩, v5, v6, -⟩ := i2 v hv
  have hbit := v6 t ht6 hgo
  rw [b2] at hbit
  obtain ⟨o1, o2, o3⟩ := sb_or b b1 t ht6
  have e8 : lkD w v t (6 + v) 8 = nI (b ||| 2 ^ t) := by rw [lkD_8, b2, o1]
  refine ⟨hF, fun z hz => ?_, fun a ha => ?_, ?_, ?_, fun s hs => ?_⟩
  · by_cases q : z = v
    · obtain ⟨v1, v2, v3, -, -, -, -⟩ := i2 z hz
      have k2 := v2.cong (w' := lkD w v t) (fun u => rows u 2 (by decide) (by decide) (by decide) (by decide)) (fun u => rows u 3 (by decide) (by decide) (by decide) (by decide))
      unfold VI
      rw [rows z 2 (by decide) (by decide) (by decide) (by decide), rows z 4 (by decide) (by decide) (by decide) (by decide)]
      subst q
      rw [e8, lkD_6, lkD_9, v5, b2, mny_or b b1 t ht6 hbit]
      exact ⟨v1, k2, v3, ⟨_, o2, rfl⟩, rfl, fun t ht q => absurd q.symm (nI_nm1 (by omega)), fun _ => rfl⟩
    · exact (i2 z hz).cong (fun u => rows u 2 (by decide) (by decide) (by decide) (by decide)) (fun u => rows u 3 (by decide) (by decide) (by decide) (by decide)) (oth z q)
  · rw [lkD_r (by decide) (by omega), i3 a ha]
    congr 1
    exact cn_cong tl (fun u hu => by rw [rows u 4 (by decide) (by decide) (by decide) (by decide), rows u 5 (by decide) (by decide) (by decide) (by decide)])
  · rw [lkD_r (by decide) (by omega), i4]
    congr 1
    exact cn_cong tl (fun u hu => by rw [rows u 4 (by decide) (by decide) (by decide) (by decide)])
  · rw [lkD_r (by decide) (by omega), i5]
    congr 1
    exact cn_cong tl (fun u hu => by rw [rows u 4 (by decide) (by decide) (by decide) (by decide)])
  · have e4 : lkD w v t 4 s = up2 w 4 t (w 4 t + 1) 4 s := by
      simp only [lkD]
      rw [trn_r (by omega), up2_r (by omega), up2_r (by omega)]
    rw [e4]
    by_cases q : s = t
    · subst q
      rw [up2_s, i6 s hs]
      refine (sno_up (v := v) (s := fun u => w (6 + u) 8) (s' := fun u => lkD w v s (6 + u) 8) (x := nI s) (by show px_sb (w (6 + v) 8) (nI s) = 0; rw [b2]; exact hbit) (by show px_sb (lkD w v s (6 + v) 8) (nI s) = 1; rw [e8, o3 s hs, if_pos rfl]) (fun u hu => by show lkD w v s (6 + u) 8 = w (6 + u) 8; rw [oth u hu]) tl hv).symm
    · rw [up2_n (Or.inr q), i6 s hs]
      refine (sno_cong tl (fun u hu => ?_)).symm
      show px_sb (lkD w v t (6 + u) 8) (nI s) = px_sb (w (6 + u) 8) (nI s)
      by_cases q2 : u = v
      · rw [q2, e8, o3 s hs, if_neg q, b2]
      · rw [oth u q2]
theorem inW_r {r : Nat} (h0 : r ≠ 0) (h1 : r ≠ 1) (h3 : r ≠ 3) (hr : r ≠ 6 + v) : inW w v c g r = w r := by
  simp only [inW]
  rw [up2_r h3, up2_r h0, up2_r h1, up2_r hr, up2_r hr]
theorem inW_j {j : Nat} (h4 : j ≠ 4) (h5 : j ≠ 5) : inW w v c g (6 + v) j = w (6 + v) j := by
  simp only [inW]
  rw [up2_r (by omega), up2_r (by omega), up2_r (by omega), up2_n (Or.inr h5), up2_n (Or.inr h4)]
theorem inW_4 : inW w v c g (6 + v) 4 = 1 := by
  simp only [inW]
  rw [up2_r (by omega), up2_r (by omega), up2_r (by omega), up2_n (Or.inr (by decide)), up2_s]
theorem inW_5 : inW w v c g (6 + v) 5 = nI c := by
  simp only [inW]
  rw [up2_r (by omega), up2_r (by omega), up2_r (by omega), up2_s]
theorem inW_1 {a : Nat} : inW w v c g 1 a = up2 w 1 c (w 1 c + 1) 1 a := by
  simp only [inW]
  rw [up2_r (by decide), up2_r (by decide)]
  by_cases q : a = c
  · rw [q, up2_s, up2_s, up2_r (by omega), up2_r (by omega)]
  · rw [up2_n (Or.inr q), up2_n (Or.inr q), up2_r (by omega), up2_r (by omega)]
theorem inW_02 : inW w v c g 0 2 = w 0 2 + 1 := by
  simp only [inW]
  rw [up2_r (by decide), up2_s, up2_r (by decide), up2_r (by omega), up2_r (by omega)]
theorem inW_0 {j : Nat} (hj : j ≠ 2) : inW w v c g 0 j = w 0 j := by
  simp only [inW]
  rw [up2_r (by decide), up2_n (Or.inr hj), up2_r (by decide), up2_r (by omega), up2_r (by omega)]
theorem inW_3 {j : Nat} : inW w v c g 3 j = up2 w 3 g (w 3 g + 1) 3 j := by
  simp only [inW]
  by_cases q : j = g
  · rw [q, up2_s, up2_s, up2_r (by decide), up2_r (by decide), up2_r (by omega), up2_r (by omega)]
  · rw [up2_n (Or.inr q), up2_n (Or.inr q), up2_r (by decide), up2_r (by decide), up2_r (by omega), up2_r (by omega)]
theorem INV.inn (I : INV w wd ht nt nd tl) (hF : WF (inW w v c g) wd ht nt nd tl) (hv : v < tl) (h1 : w (6 + v) 4 = 0) (hc2 : c < 144) (hht : ht ≤ 12) : INV (inW w v c g) wd ht nt nd tl := by
  obtain ⟨i1, i2, i3, i4, i5, i6⟩ := I
  have rows : ∀ z j, j ≠ 4 → j ≠ 5 → inW w v c g (6 + z) j = w (6 + z) j := fun z j h4 h5 => by
    by_cases q : z = v
    · rw [q, inW_j h4 h5]
    · rw [inW_r (by omega) (by omega) (by omega) (by omega)]
  have oth : ∀ z, z ≠ v → inW w v c g (6 + z) = w (6 + z) := fun z q => inW_r (by omega) (by omega) (by omega) (by omega)
  have hn1 : ¬ w (6 + v) 4 = 1 := by rw [h1]; decide
  refine ⟨hF, fun z hz => ?_, fun a ha => ?_, ?_, ?_, fun t ht => ?_⟩
  · by_cases q : z = v
    · obtain ⟨v1, v2, v3, v4, v5, v6, v7⟩ := i2 z hz
      have k2 := v2.cong (w' := inW w v c g) (fun u => rows u 2 (by decide) (by decide)) (fun u => rows u 3 (by decide) (by decide))
      unfold VI
      rw [rows z 2 (by decide) (by decide), rows z 6 (by decide) (by decide), rows z 8 (by decide) (by decide), rows z 9 (by decide) (by decide)]
      subst q
      rw [inW_4]
      exact ⟨v1, k2, Or.inr (Or.inl rfl), v4, v5, v6, fun q => absurd rfl q⟩
    · exact (i2 z hz).cong (fun u => rows u 2 (by decide) (by decide)) (fun u => rows u 3 (by decide) (by decide)) (oth z q)
  · rw [inW_1]
    have others : ∀ u, u ≠ v → ((w (6 + u) 4 = 1 ∧ w (6 + u) 5 = nI a) ↔ (inW w v c g (6 + u) 4 = 1 ∧ inW w v c g (6 + u) 5 = nI a)) := fun u q => by rw [oth u q]
    by_cases qc : a = c
    · subst qc
      rw [up2_s, i3 a ha]
      have := cn_up (v := v) (q := fun u => inW w v a g (6 + u) 4 = 1 ∧ inW w v a g (6 + u) 5 = nI a) (p := fun u => w (6 + u) 4 = 1 ∧ w (6 + u) 5 = nI a) (fun q => hn1 q.1) ⟨inW_4, inW_5⟩ others tl hv
      rw [this]
      exact nI_1 _
    · rw [up2_n (Or.inr qc), i3 a ha]
      congr 1
      refine cn_cong tl (fun u hu => ?_)
      by_cases q : u = v
      · subst q
        rw [inW_5]
        exact ⟨fun q => absurd q.1 hn1, fun q => absurd ((nI_eq (by omega) (by omega)).mp q.2).symm qc⟩
      · exact others u q
  · rw [inW_02, i4]
    have := cn_up (v := v) (q := fun u => inW w v c g (6 + u) 4 = 1) (p := fun u => w (6 + u) 4 = 1) hn1 inW_4 (fun u q => by rw [oth u q]) tl hv
    rw [this]
    exact nI_1 _
  · rw [inW_0 (by decide), i5]
    congr 1
    refine cn_cong tl (fun u hu => ?_)
    by_cases q : u = v
    · subst q
      rw [inW_4, h1]
      exact ⟨fun q => absurd q (by decide), fun q => absurd q (by decide)⟩
    · rw [oth u q]
  · rw [inW_r (by decide) (by decide) (by decide) (by omega), i6 t ht]
    exact sno_cong tl (fun u hu => by rw [rows u 8 (by decide) (by decide)])
end IN2
