/-! BOTH TOGETHER: class and model, between two calls -/
def FRS (w μ : Nat → Nat → Int32) (tl : Nat) : Prop := ∀ v, tl ≤ v → v < 16 → (w (6 + v) 4 = 0 ∧ w (6 + v) 5 = 0 ∧ w (6 + v) 6 = -1 ∧ w (6 + v) 8 = 0 ∧ w (6 + v) 9 = 0) ∧ μ 10 v = 0 ∧ μ 12 v = -1 ∧ μ 14 v = 0
def RE (h w μ : Nat → Nat → Int32) (ta : Nat → Int32) (wd ht nt nd tl nw : Nat) : Prop :=
  HG h wd ht nt nd (12 * ht) ∧ HS h nt ∧ INV w wd ht nt nd tl ∧ w 0 4 = 0 ∧ CH h μ wd ht nt nd ∧ CW h w μ nd tl ∧ CC true w μ ht ∧ μ 0 9 = nI nw ∧ w 0 1 = nI nw ∧ nw ≤ 400 ∧ TA ta ∧ (∀ t, t < 6 → μ 5 t = ta t) ∧ LT1 w tl ∧ FRS w μ tl
section TOP
variable {h h' w w' wt μ μ' : Nat → Nat → Int32} {ta f : Nat → Int32} {n nt nd nt' nd' wd ht tl nw p c d : Nat} {v x : Int32} {b : Bool}
theorem CC.e (Q : CC b w μ ht) (hht : ht ≤ 12) (E : FrE p μ μ') : CC b w μ' ht := fun hb => ⟨fun c hc => by rw [E.2.2.2.1 c (by omega)]; exact (Q hb).1 c hc, fun d hd => by rw [(E.2.2.2.2 d hd).1, (E.2.2.2.2 d hd).2]; exact (Q hb).2 d hd⟩
theorem FRS.e (F : FRS w μ tl) (E : FrE p μ μ') : FRS w μ' tl := fun v h1 h2 => by
  rw [E.2.2.1 10 v (by decide) (by decide) h2, E.2.2.1 12 v (by decide) (by decide) h2, E.2.2.1 14 v (by decide) (by decide) h2]
  exact F v h1 h2
theorem FRS.mu (F : FRS w μ tl) {r j : Nat} (h0 : r ≠ 10) (h1 : r ≠ 12) (h2 : r ≠ 14) : FRS w (up2 μ r j x) tl := fun v a c => by
  rw [up2_r (Ne.symm h0), up2_r (Ne.symm h1), up2_r (Ne.symm h2)]
  exact F v a c
theorem RE.e (R : RE h w μ ta wd ht nt nd tl nw) (E : FrE 0 μ μ') : RE h w μ' ta wd ht nt nd tl nw := by
  obtain ⟨B, S, I, z4, C, W, Q, m9, w1, nw4, T, m5, L, F⟩ := R
  exact ⟨B, S, I, z4, C.e E, W.e I.1.2.1 E (Or.inl rfl), Q.e B.1.2.2.2.2.2.1.2 E, by rw [E.1 9 (by decide)]; exact m9, w1, nw4, T, by rw [E.2.1 5 (by decide) (by decide) (by decide)]; exact m5, L, F.e E⟩
theorem CW.hh (W : CW h w μ nd tl) (h04 : w 0 4 = 0) (hnd : nd ≤ nd') : CW h' w μ nd' tl := by
  refine ⟨W.1, fun v hv => ?_⟩
  obtain ⟨v0, ⟨d, d1, d2, d3⟩, v2, v3, v4, v5, v6, v7⟩ := W.2 v hv
  exact ⟨v0, ⟨d, by omega, d2, d3⟩, v2, v3, v4, v5.elim Or.inl (fun q => absurd h04 q.1), v6, v7⟩
theorem INV.mono (I : INV w wd ht nt nd tl) (h1 : nt ≤ nt') (h2 : nd ≤ nd') : INV w wd ht nt' nd' tl := by
  obtain ⟨⟨f1, f2, f3⟩, i2⟩ := I
  refine ⟨⟨f1, f2, fun i hi => ?_⟩, i2⟩
  obtain ⟨a, ⟨o, o1, o2⟩, d, d1, d2⟩ := f3 i hi
  exact ⟨a, ⟨o, o1, fun g hg => (o2 g hg).elim (fun q => Or.inl (by omega)) (fun q => Or.inr (by omega))⟩, d, d1, by omega⟩
theorem RE.wl (R : RE h w μ ta wd ht nt nd tl nw) (N : hN (up2 h 1 c v) h') (B' : HG h' wd ht nt nd (12 * ht)) : RE h' w (up2 μ 1 c v) ta wd ht nt nd tl nw := by
  obtain ⟨B, S, I, z4, C, W, Q, m9, w1, nw4, T, m5, L, F⟩ := R
  obtain ⟨n0, n1, n2, n3, n4⟩ := N
  rw [up2_r (by decide)] at n0 n2 n3 n4
  refine ⟨B', ?_, I, z4, ?_, (W.keep (fun _ => rfl) rfl (up2_n (Or.inl (by decide))) (fun r a b => up2_r (by omega))).hh z4 (Nat.le_refl _), Q.mu (by decide) (by decide) (by decide), by rw [up2_n (Or.inl (by decide))]; exact m9, w1, nw4, T, by rw [up2_r (by decide)]; exact m5, L, F.mu (by decide) (by decide) (by decide)⟩
  · unfold HS hIN at S ⊢
    rw [n3, n0]
    exact S
  · obtain ⟨c1, c2, c3, c4, c5, c6, c7, c8, c9, c10⟩ := C
    unfold CH
    rw [n0, n2, n3, n4, n1, up2_r (show (0 : Nat) ≠ 1 by decide), up2_r (show (2 : Nat) ≠ 1 by decide), up2_r (show (3 : Nat) ≠ 1 by decide), up2_r (show (4 : Nat) ≠ 1 by decide), up2_r (show (6 : Nat) ≠ 1 by decide)]
    refine ⟨c1, c2, c3, c4, c5, c6, c7, fun k hk => ?_, c9, c10⟩
    by_cases q : k = c
    · rw [q, up2_s, up2_s]
    · rw [up2_n (Or.inr q), up2_n (Or.inr q)]
      exact c8 k hk
theorem nI_gt0 {m : Nat} (hm : m ≤ 16) : 0 < nI m ↔ 0 < m := by
  rw [Int32.lt_iff_toInt_lt, nI_toInt (by omega)]
  show (0 : Int) < m ↔ _
  omega
theorem wl_iff (R : RE h w μ ta wd ht nt nd tl nw) (hc : c < 12 * ht) : wlB h w nt nd c v ↔ (μ 1 c = v ∨ (¬ v = 0 ∧ tkM μ nt nd tl c)) := by
  obtain ⟨B, S, I, z4, C, W, Q, m9, w1, nw4, T, m5, L, F⟩ := R
  have hnt := B.1.2.2.2.2.2.2.1
  have hnd := B.1.2.2.2.2.2.2.2.1
  have e : 0 < w 1 c ↔ 0 < cn (fun z => μ 10 z = 1 ∧ μ 11 z = nI c) tl := by
    rw [← W.cr I.2.2.1 hc]
    exact nI_gt0 (Nat.le_trans (cn_le tl) I.1.2.1)
  have g : (∃ g, g < 10 ∧ isG nt nd g ∧ h 2 g = nI c) ↔ ((∃ t, t < nt ∧ μ 2 t = nI c) ∨ ∃ d, d < nd ∧ μ 6 d = nI c) := by
    constructor
    · rintro ⟨g, g1, g2 | g2, g3⟩
      · exact Or.inl ⟨g, g2, by rw [(C.2.2.2.2.2.2.2.2.1 g g2).1]; exact g3⟩
      · refine Or.inr ⟨g - 6, by omega, ?_⟩
        rw [C.2.2.2.2.2.2.2.2.2 (g - 6) (by omega), show 6 + (g - 6) = g by omega]
        exact g3
    · rintro (⟨t, t1, t2⟩ | ⟨d, d1, d2⟩)
      · exact ⟨t, by omega, Or.inl t1, by rw [← (C.2.2.2.2.2.2.2.2.1 t t1).1]; exact t2⟩
      · exact ⟨6 + d, by omega, Or.inr (by omega), by rw [← C.2.2.2.2.2.2.2.2.2 d d1]; exact d2⟩
  unfold wlB tkM
  rw [C.2.2.2.2.2.2.2.1 c hc]
  constructor
  · rintro (q | ⟨q1, q2 | q2⟩)
    · exact Or.inl q
    · exact Or.inr ⟨q1, Or.inr (g.mp q2)⟩
    · exact Or.inr ⟨q1, Or.inl (e.mp q2)⟩
  · rintro (q | ⟨q1, q2 | q2⟩)
    · exact Or.inl q
    · exact Or.inr ⟨q1, Or.inr (e.mpr q2)⟩
    · exact Or.inr ⟨q1, Or.inl (g.mpr q2)⟩
theorem RE.th (R : RE h w μ ta wd ht nt nd tl nw) {i s : Int32} (hi : 1 ≤ i ∧ i ≤ 100) (N : hN (thH h nt c i s) h') (B' : HG h' wd ht (nt + 1) nd (12 * ht)) : RE h' w (up2 (up2 (up2 (up2 μ 2 nt (nI c)) 3 nt i) 4 nt s) 0 4 (nI (nt + 1))) ta wd ht (nt + 1) nd tl nw := by
  obtain ⟨B, S, I, z4, C, W, Q, m9, w1, nw4, T, m5, L, F⟩ := R
  obtain ⟨n0, n1, n2, n3, n4⟩ := N
  unfold thH at n0 n1 n2 n3 n4
  rw [up2_r (show (1 : Nat) ≠ 0 by decide), up2_r (by decide), up2_r (by decide), up2_r (by decide)] at n1
  rw [up2_r (show (2 : Nat) ≠ 0 by decide)] at n2
  rw [up2_r (show (3 : Nat) ≠ 0 by decide), up2_r (show (3 : Nat) ≠ 2 by decide), up2_r (show (3 : Nat) ≠ 4 by decide)] at n3
  rw [up2_r (show (4 : Nat) ≠ 0 by decide), up2_r (show (4 : Nat) ≠ 2 by decide)] at n4
  have e0 : ∀ j, j ≠ 3 → h' 0 j = h 0 j := fun j hj => by rw [n0, up2_n (Or.inr hj), up2_r (by decide), up2_r (by decide), up2_r (by decide)]
  have e2 : ∀ j, j ≠ nt → h' 2 j = h 2 j := fun j hj => by rw [n2, up2_n (Or.inr hj), up2_r (by decide), up2_r (by decide)]
  have e3 : ∀ j, j ≠ nt → h' 3 j = h 3 j := fun j hj => by rw [n3, up2_n (Or.inr hj)]
  have e4 : ∀ j, j ≠ nt → h' 4 j = h 4 j := fun j hj => by rw [n4, up2_n (Or.inr hj), up2_r (by decide)]
  have f2 : h' 2 nt = nI c := by rw [n2, up2_s]
  have f3 : h' 3 nt = i := by rw [n3, up2_s]
  have f4 : h' 4 nt = s := by rw [n4, up2_s]
  refine ⟨B', ?_, I.mono (by omega) (Nat.le_refl _), z4, ?_, CW.hh (h := h) (nd := nd) (CW.keep W (fun _ => rfl) rfl ?_ (fun r a b => ?_)) z4 (Nat.le_refl _), (((Q.mu (by decide) (by decide) (by decide)).mu (by decide) (by decide) (by decide)).mu (by decide) (by decide) (by decide)).mu (by decide) (by decide) (by decide), ?_, w1, nw4, T, ?_, L, (((F.mu (by decide) (by decide) (by decide)).mu (by decide) (by decide) (by decide)).mu (by decide) (by decide) (by decide)).mu (by decide) (by decide) (by decide)⟩
  · refine ⟨fun t ht => ?_, ?_⟩
    · by_cases q : t = nt
      · rw [q, f3]
        obtain ⟨m, m1, m2⟩ := nI_of2 (x := i) (M := 100) (n := 100) rfl (fun q => k2_nlt hi.1 (Int32.lt_trans q (by decide))) hi.2
        refine ⟨m, ?_, m1, m2⟩
        have h1 := hi.1
        rw [m2] at h1
        simp (disch := omega) only [Int32.lt_iff_toInt_lt, Int32.le_iff_toInt_le, nI_toInt, px_l0, px_l1, px_l2, px_l3, px_l4, px_l5, px_l6, px_l10, px_l11, px_l12, px_l16, px_l30, px_l100, px_l400] at h1
        omega
      · rw [e3 t q]
        exact S.1 t (by omega)
    · rw [e0 2 (by decide)]
      exact S.2
  · obtain ⟨c1, c2, c3, c4, c5, c6, c7, c8, c9, c10⟩ := C
    unfold CH
    rw [e0 2 (by decide), e0 5 (by decide), e0 6 (by decide), n1]
    have u0 : ∀ j, j ≠ 4 → up2 (up2 (up2 (up2 μ 2 nt (nI c)) 3 nt i) 4 nt s) 0 4 (nI (nt + 1)) 0 j = μ 0 j := fun j hj => by rw [up2_n (Or.inr hj), up2_r (by decide), up2_r (by decide), up2_r (by decide)]
    refine ⟨by rw [u0 1 (by decide)]; exact c1, by rw [u0 2 (by decide)]; exact c2, by rw [u0 3 (by decide)]; exact c3, up2_s, by rw [u0 5 (by decide)]; exact c5, by rw [u0 6 (by decide)]; exact c6, by rw [u0 7 (by decide)]; exact c7, fun k hk => ?_, fun t ht => ?_, fun e he => ?_⟩
    · rw [up2_r (by decide), up2_r (by decide), up2_r (by decide), up2_r (by decide)]
      exact c8 k hk
    · rw [up2_r (show (2 : Nat) ≠ 0 by decide), up2_r (show (2 : Nat) ≠ 4 by decide), up2_r (show (2 : Nat) ≠ 3 by decide), up2_r (show (3 : Nat) ≠ 0 by decide), up2_r (show (3 : Nat) ≠ 4 by decide), up2_r (show (4 : Nat) ≠ 0 by decide)]
      by_cases q : t = nt
      · rw [q, f2, f3, f4, up2_s, up2_s, up2_s]
        exact ⟨rfl, rfl, rfl⟩
      · rw [e2 t q, e3 t q, e4 t q, up2_n (Or.inr q), up2_n (Or.inr q), up2_n (Or.inr q), up2_n (Or.inr q), up2_r (show (4 : Nat) ≠ 3 by decide), up2_r (show (4 : Nat) ≠ 2 by decide)]
        exact c9 t (by omega)
    · rw [up2_r (by decide), up2_r (by decide), up2_r (by decide), up2_r (by decide), e2 (6 + e) (by have := B.1.2.2.2.2.2.2.1; have := B'.1.2.2.2.2.2.2.1; omega)]
      exact c10 e he
  · rw [up2_n (by decide), up2_r (by decide), up2_r (by decide), up2_r (by decide)]
  · rw [up2_r (by omega), up2_r (by omega), up2_r (by omega), up2_r (by omega)]
  · rw [up2_n (by decide), up2_r (by decide), up2_r (by decide), up2_r (by decide)]
    exact m9
  · rw [up2_r (by decide), up2_r (by decide), up2_r (by decide), up2_r (by decide)]
    exact m5
theorem RE.dr (R : RE h w μ ta wd ht nt nd tl nw) (N : hN (drH h nd c) h') (B' : HG h' wd ht nt (nd + 1) (12 * ht)) : RE h' w (up2 (up2 μ 6 nd (nI c)) 0 5 (nI (nd + 1))) ta wd ht nt (nd + 1) tl nw := by
  obtain ⟨B, S, I, z4, C, W, Q, m9, w1, nw4, T, m5, L, F⟩ := R
  obtain ⟨n0, n1, n2, n3, n4⟩ := N
  unfold drH at n0 n1 n2 n3 n4
  rw [up2_r (show (1 : Nat) ≠ 0 by decide), up2_r (by decide)] at n1
  rw [up2_r (show (2 : Nat) ≠ 0 by decide)] at n2
  rw [up2_r (show (3 : Nat) ≠ 0 by decide), up2_r (by decide)] at n3
  rw [up2_r (show (4 : Nat) ≠ 0 by decide), up2_r (by decide)] at n4
  have e0 : ∀ j, j ≠ 4 → h' 0 j = h 0 j := fun j hj => by rw [n0, up2_n (Or.inr hj), up2_r (by decide)]
  have hnt := B.1.2.2.2.2.2.2.1
  refine ⟨B', ?_, I.mono (Nat.le_refl _) (by omega), z4, ?_, CW.hh (h := h) (nd := nd) (CW.keep W (fun _ => rfl) rfl ?_ (fun r a b => ?_)) z4 (by omega), (Q.mu (by decide) (by decide) (by decide)).mu (by decide) (by decide) (by decide), ?_, w1, nw4, T, ?_, L, (F.mu (by decide) (by decide) (by decide)).mu (by decide) (by decide) (by decide)⟩
  · unfold HS hIN at S ⊢
    rw [n3, e0 2 (by decide)]
    exact S
  · obtain ⟨c1, c2, c3, c4, c5, c6, c7, c8, c9, c10⟩ := C
    unfold CH
    rw [e0 2 (by decide), e0 5 (by decide), e0 6 (by decide), n1, n3, n4, n2]
    have u0 : ∀ j, j ≠ 5 → up2 (up2 μ 6 nd (nI c)) 0 5 (nI (nd + 1)) 0 j = μ 0 j := fun j hj => by rw [up2_n (Or.inr hj), up2_r (by decide)]
    refine ⟨by rw [u0 1 (by decide)]; exact c1, by rw [u0 2 (by decide)]; exact c2, by rw [u0 3 (by decide)]; exact c3, by rw [u0 4 (by decide)]; exact c4, up2_s, by rw [u0 6 (by decide)]; exact c6, by rw [u0 7 (by decide)]; exact c7, fun k hk => ?_, fun t ht => ?_, fun e he => ?_⟩
    · rw [up2_r (by decide), up2_r (by decide)]
      exact c8 k hk
    · rw [up2_r (show (2 : Nat) ≠ 0 by decide), up2_r (show (2 : Nat) ≠ 6 by decide), up2_r (show (3 : Nat) ≠ 0 by decide), up2_r (show (3 : Nat) ≠ 6 by decide), up2_r (show (4 : Nat) ≠ 0 by decide), up2_r (show (4 : Nat) ≠ 6 by decide), up2_n (Or.inr (by omega))]
      exact c9 t ht
    · rw [up2_r (show (6 : Nat) ≠ 0 by decide)]
      by_cases q : e = nd
      · rw [q, up2_s, up2_s]
      · rw [up2_n (Or.inr q), up2_n (Or.inr (by omega))]
        exact c10 e (by omega)
  · rw [up2_n (by decide), up2_r (by decide)]
  · rw [up2_r (by omega), up2_r (by omega)]
  · rw [up2_n (by decide), up2_r (by decide)]
    exact m9
  · rw [up2_r (by decide), up2_r (by decide)]
    exact m5
/-- room, patience -/
theorem RE.rp (R : RE h w μ ta wd ht nt nd tl nw) {j jm : Nat} (hj : (j = 5 ∧ jm = 6) ∨ (j = 6 ∧ jm = 7)) : RE (up2 h 0 j x) w (up2 μ 0 jm x) ta wd ht nt nd tl nw := by
  obtain ⟨B, S, I, z4, C, W, Q, m9, w1, nw4, T, m5, L, F⟩ := R
  have r : ∀ r, r ≠ 0 → up2 h 0 j x r = h r := fun r hr => up2_r hr
  refine ⟨⟨?_, fun g hg => ?_⟩, ?_, I, z4, ?_, (CW.hh (nd := nd) (CW.keep W (fun _ => rfl) rfl (up2_n (by omega)) (fun r a b => up2_r (by omega))) z4 (Nat.le_refl _)), Q.mu (by decide) (by decide) (by decide), by rw [up2_n (by omega)]; exact m9, w1, nw4, T, by rw [up2_r (by decide)]; exact m5, L, F.mu (by decide) (by decide) (by decide)⟩
  · obtain ⟨b0, b1, b2, b3, b4⟩ := B.1
    unfold HF
    rw [up2_n (by omega), up2_n (by omega), up2_n (by omega), up2_n (by omega), r 2 (by decide)]
    exact ⟨b0, b1, b2, b3, b4⟩
  · have D := B.2 g hg
    unfold HD at D ⊢
    rw [r 2 (by decide), r 1 (by decide), r (6 + g) (by omega)]
    exact D
  · unfold HS hIN at S ⊢
    rw [r 3 (by decide), up2_n (by omega)]
    exact S
  · obtain ⟨c1, c2, c3, c4, c5, c6, c7, c8, c9, c10⟩ := C
    unfold CH
    rw [r 1 (by decide), r 2 (by decide), r 3 (by decide), r 4 (by decide), up2_r (show (1 : Nat) ≠ 0 by decide), up2_r (show (2 : Nat) ≠ 0 by decide), up2_r (show (3 : Nat) ≠ 0 by decide), up2_r (show (4 : Nat) ≠ 0 by decide), up2_r (show (6 : Nat) ≠ 0 by decide)]
    rcases hj with ⟨rfl, rfl⟩ | ⟨rfl, rfl⟩
    · exact ⟨by rw [up2_n (by decide)]; exact c1, by rw [up2_n (by decide)]; exact c2, by rw [up2_n (by decide), up2_n (by decide)]; exact c3, by rw [up2_n (by decide)]; exact c4, by rw [up2_n (by decide)]; exact c5, by rw [up2_s, up2_s], by rw [up2_n (by decide), up2_n (by decide)]; exact c7, c8, c9, c10⟩
    · exact ⟨by rw [up2_n (by decide)]; exact c1, by rw [up2_n (by decide)]; exact c2, by rw [up2_n (by decide), up2_n (by decide)]; exact c3, by rw [up2_n (by decide)]; exact c4, by rw [up2_n (by decide)]; exact c5, by rw [up2_n (by decide), up2_n (by decide)]; exact c6, by rw [up2_s, up2_s], c8, c9, c10⟩
theorem RE.ct (R : RE h w μ ta wd ht nt nd tl nw) {t : Nat} (hx : -1 ≤ x ∧ x ≤ 100) : RE h w (up2 μ 5 t x) (upd ta t x) wd ht nt nd tl nw := by
  obtain ⟨B, S, I, z4, C, W, Q, m9, w1, nw4, T, m5, L, F⟩ := R
  refine ⟨B, S, I, z4, ?_, CW.keep W (fun _ => rfl) rfl (up2_n (Or.inl (by decide))) (fun r a b => up2_r (by omega)), Q.mu (by decide) (by decide) (by decide), by rw [up2_n (Or.inl (by decide))]; exact m9, w1, nw4, fun u hu => ?_, fun u hu => ?_, L, F.mu (by decide) (by decide) (by decide)⟩
  · obtain ⟨c1, c2, c3, c4, c5, c6, c7, c8, c9, c10⟩ := C
    unfold CH
    rw [up2_r (show (0 : Nat) ≠ 5 by decide), up2_r (show (1 : Nat) ≠ 5 by decide), up2_r (show (2 : Nat) ≠ 5 by decide), up2_r (show (3 : Nat) ≠ 5 by decide), up2_r (show (4 : Nat) ≠ 5 by decide), up2_r (show (6 : Nat) ≠ 5 by decide)]
    exact ⟨c1, c2, c3, c4, c5, c6, c7, c8, c9, c10⟩
  · unfold upd
    by_cases q : u = t
    · rw [if_pos q]
      by_cases q1 : x = -1
      · exact Or.inl q1
      · refine Or.inr ?_
        have hneg : ¬ x < 0 := fun q2 => q1 (Int32.le_antisymm (by
          rw [Int32.lt_iff_toInt_lt] at q2
          rw [Int32.le_iff_toInt_le]
          change x.toInt < 0 at q2
          show x.toInt ≤ -1
          omega) hx.1)
        exact nI_of2 (x := x) (M := 100) (n := 100) rfl hneg hx.2
    · rw [if_neg q]
      exact T u hu
  · unfold upd
    by_cases q : u = t
    · rw [if_pos q, q, up2_s]
    · rw [if_neg q, up2_n (Or.inr q)]
      exact m5 u hu
theorem psW_o {u : Nat} (hu : tl ≤ u) : psW h wd ht nt nd tl w (6 + u) = w (6 + u) := by
  have p1 : ∀ k, k ≤ tl → px_it (psI h wd ht nt nd tl) k w (6 + u) = w (6 + u) := by
    intro k
    induction k with
    | zero => intro _; rfl
    | succ k ih => intro hk; rw [it_s, psI_o (by omega)]; exact ih (by omega)
  have p2 : ∀ k, px_it ssI k (px_it (psI h wd ht nt nd tl) tl w) (6 + u) = w (6 + u) := by
    intro k
    induction k with
    | zero => exact p1 tl (Nat.le_refl tl)
    | succ k ih =>
      rw [it_s]
      unfold ssI
      split
      · rw [up2_r (by omega)]
        exact ih
      · exact ih
  unfold psW
  rw [up2_r (by omega)]
  exact p2 tl
theorem rnW_o {u : Nat} (hu : tl ≤ u) : ∀ s, rnW h wd ht nt nd tl s w (6 + u) = w (6 + u)
  | 0 => rfl
  | s + 1 => by
    show psW h wd ht nt nd tl (rnW h wd ht nt nd tl s w) (6 + u) = _
    rw [psW_o hu, rnW_o hu s]
theorem rnW_L (L : LT1 w tl) (hn : w 0 1 = nI nw) : ∀ s, nw + s < 2000 → LT1 (rnW h wd ht nt nd tl s w) tl
  | 0, _ => L
  | s + 1, hs => (rnW_L L hn s (by omega)).ps ((rnW_k s).1 nw hn) (by omega)
theorem RE.rn (R : RE h w μ ta wd ht nt nd tl nw) {s : Nat} (hs : nw + s ≤ 400) (W' : CW h (rnW h wd ht nt nd tl s w) μ' nd tl) (Q' : CC true (rnW h wd ht nt nd tl s w) μ' ht) (h9 : μ' 0 9 = rnW h wd ht nt nd tl s w 0 1) (E : FrR μ μ' tl) : RE h (rnW h wd ht nt nd tl s w) μ' ta wd ht nt nd tl (nw + s) := by
  obtain ⟨B, S, I, z4, C, W, Q, m9, w1, nw4, T, m5, L, F⟩ := R
  have kk := rnW_k (h := h) (wd := wd) (ht := ht) (nt := nt) (nd := nd) (tl := tl) (w := w) s
  refine ⟨B, S, rnW_I I B S.1 s, by rw [kk.2.1]; exact z4, C.r E, W', Q', by rw [h9]; exact kk.1 nw w1, kk.1 nw w1, hs, T, by rw [E.1 5 (by decide) (by decide)]; exact m5, rnW_L L w1 s (by omega), fun v h1 h2 => ?_⟩
  rw [rnW_o h1 s, E.2.2 10 v h1 (by decide) (by decide), E.2.2 12 v h1 (by decide) (by decide), E.2.2 14 v h1 (by decide) (by decide)]
  exact F v h1 h2
/-! arrives -/
theorem keyA_1 {g : Int32} : ∀ k i, i + k = tl → (∀ j, j < i → ¬ w (6 + j) 2 = g) → ∃ m, m ≤ tl ∧ keyA w tl g k i = nI m ∧ (∀ j, j < m → ¬ w (6 + j) 2 = g) ∧ (m < tl → w (6 + m) 2 = g)
  | 0, i, hi, H => ⟨tl, Nat.le_refl tl, rfl, fun j hj => H j (by omega), fun q => absurd q (Nat.lt_irrefl _)⟩
  | k + 1, i, hi, H => by
    unfold keyA
    by_cases q : w (6 + i) 2 = g
    · rw [if_pos q]
      exact ⟨i, by omega, rfl, H, fun _ => q⟩
    · rw [if_neg q]
      refine keyA_1 k (i + 1) (by omega) (fun j hj => ?_)
      by_cases e : j = i
      · rw [e]; exact q
      · exact H j (by omega)
theorem tlW_o {s e g : Int32} {u : Nat} (hu : u ≠ tl) : tlW w tl s e g (6 + u) = w (6 + u) := by
  simp only [tlW]
  rw [up2_r (by omega), up2_r (by omega), up2_r (by omega), up2_r (by omega), up2_r (by omega)]
theorem tlW_r {s e g : Int32} {r : Nat} (h0 : r ≠ 0) (h1 : r < 6) : tlW w tl s e g r = w r := by
  simp only [tlW]
  rw [up2_r h0, up2_r (by omega), up2_r (by omega), up2_r (by omega), up2_r (by omega)]
theorem tlW_0 {s e g : Int32} {j : Nat} (hj : j ≠ 0) : tlW w tl s e g 0 j = w 0 j := by
  simp only [tlW]
  rw [up2_n (Or.inr hj), up2_r (by omega), up2_r (by omega), up2_r (by omega), up2_r (by omega)]
theorem tlW_00 {s e g : Int32} : tlW w tl s e g 0 0 = w 0 0 + 1 := by
  simp only [tlW]
  rw [up2_s, up2_r (by omega), up2_r (by omega), up2_r (by omega), up2_r (by omega)]
theorem tlW_v {s e g : Int32} : tlW w tl s e g (6 + tl) 0 = s ∧ tlW w tl s e g (6 + tl) 1 = e ∧ tlW w tl s e g (6 + tl) 2 = g ∧ tlW w tl s e g (6 + tl) 3 = keyV (up2 (up2 (up2 w (6 + tl) 0 s) (6 + tl) 1 e) (6 + tl) 2 g) tl g ∧ ∀ j, 4 ≤ j → tlW w tl s e g (6 + tl) j = w (6 + tl) j := by
  simp only [tlW]
  refine ⟨?_, ?_, ?_, ?_, fun j hj => ?_⟩
  · rw [up2_r (by omega), up2_n (Or.inr (by decide)), up2_n (Or.inr (by decide)), up2_n (Or.inr (by decide)), up2_s]
  · rw [up2_r (by omega), up2_n (Or.inr (by decide)), up2_n (Or.inr (by decide)), up2_s]
  · rw [up2_r (by omega), up2_n (Or.inr (by decide)), up2_s]
  · rw [up2_r (by omega), up2_s]
  · rw [up2_r (by omega), up2_n (Or.inr (by omega)), up2_n (Or.inr (by omega)), up2_n (Or.inr (by omega)), up2_n (Or.inr (by omega))]
theorem cn_s0 {q q' : Nat → Prop} (h1 : ∀ u, u < tl → (q' u ↔ q u)) (h0 : ¬ q' tl) : cn q' (tl + 1) = cn q tl := by
  show cn q' tl + px_if (q' tl) 1 0 = cn q tl
  rw [px_if_f h0, cn_cong tl h1]
  rfl
theorem INV.tell (I : INV w wd ht nt nd tl) (htl : tl < 16) (hf : w (6 + tl) 4 = 0 ∧ w (6 + tl) 5 = 0 ∧ w (6 + tl) 6 = -1 ∧ w (6 + tl) 8 = 0 ∧ w (6 + tl) 9 = 0) (hd : d < nd) {s g : Int32} (hg : ∃ gr, gr < 4 ∧ g = nI gr) (hwd : 4 ≤ wd) (hht : 4 ≤ ht) : INV (tlW w tl s (nI (6 + d)) g) wd ht nt nd (tl + 1) := by
  obtain ⟨i1, i2, i3, i4, i5, i6⟩ := I
  obtain ⟨f4, f5, f6, f8, f9⟩ := hf
  obtain ⟨t0, t1, t2, t3, tj⟩ := tlW_v (w := w) (tl := tl) (s := s) (e := nI (6 + d)) (g := g)
  have ro : ∀ u, u < tl → tlW w tl s (nI (6 + d)) g (6 + u) = w (6 + u) := fun u hu => tlW_o (by omega)
  refine ⟨⟨by rw [tlW_00, i1.1, nI_1], by omega, fun i hi => ?_⟩, fun z hz => ?_, fun a ha => ?_, ?_, ?_, fun t ht => ?_⟩
  · by_cases q : i = tl
    · rw [q]
      refine ⟨⟨0, by rw [tj 5 (by decide), f5]; rfl, by unfold inC; omega⟩, ⟨none, by rw [tj 6 (by decide), f6]; rfl, fun g hg => by cases hg⟩, d, t1, hd⟩
    · rw [ro i (by omega)]
      exact i1.2.2 i (by omega)
  · by_cases q : z = tl
    · rw [q]
      unfold VI
      rw [t2, tj 4 (by decide), tj 8 (by decide), tj 9 (by decide), tj 6 (by decide), f4, f6, f8, f9]
      refine ⟨hg, ?_, Or.inl rfl, ⟨0, by decide, rfl⟩, by decide, fun t ht e => absurd e.symm (nI_nm1 (by omega)), fun _ => rfl⟩
      unfold KS
      rw [t2, t3]
      unfold keyV
      by_cases q0 : g = 0
      · rw [if_pos q0]
        exact ⟨tl, Nat.le_refl _, rfl, fun _ => rfl, fun q => absurd q0 q⟩
      · rw [if_neg q0]
        obtain ⟨m, m1, m2, m3, m4⟩ := keyA_1 (w := up2 (up2 (up2 w (6 + tl) 0 s) (6 + tl) 1 (nI (6 + d))) (6 + tl) 2 g) (tl := tl) (g := g) tl 0 (by omega) (fun j hj => absurd hj (Nat.not_lt_zero j))
        have rr : ∀ j, j < tl → up2 (up2 (up2 w (6 + tl) 0 s) (6 + tl) 1 (nI (6 + d))) (6 + tl) 2 g (6 + j) 2 = tlW w tl s (nI (6 + d)) g (6 + j) 2 := fun j hj => by
          rw [up2_r (by omega), up2_r (by omega), up2_r (by omega), ro j hj]
        refine ⟨m, m1, m2, fun q => absurd q q0, fun _ => ⟨?_, fun j hj => ?_⟩⟩
        · by_cases q1 : m = tl
          · rw [q1, t2]
          · rw [← rr m (by omega)]
            exact m4 (by omega)
        · rw [← rr j (by omega)]
          exact m3 j hj
    · obtain ⟨v1, v2, v3⟩ := i2 z (by omega)
      have k2 := v2.cb (w' := tlW w tl s (nI (6 + d)) g) (fun u hu => by rw [ro u (by omega)]) (by rw [ro z (by omega)])
      unfold VI
      rw [ro z (by omega)]
      exact ⟨v1, k2, v3⟩
  · rw [tlW_r (by decide) (by decide), i3 a ha]
    congr 1
    exact (cn_s0 (fun u hu => by rw [ro u hu]) (fun q => by rw [tj 4 (by decide), f4] at q; exact absurd q.1 (by decide))).symm
  · rw [tlW_0 (by decide), i4]
    congr 1
    exact (cn_s0 (fun u hu => by rw [ro u hu]) (fun q => by rw [tj 4 (by decide), f4] at q; exact absurd q (by decide))).symm
  · rw [tlW_0 (by decide), i5]
    congr 1
    exact (cn_s0 (fun u hu => by rw [ro u hu]) (fun q => by rw [tj 4 (by decide), f4] at q; exact absurd q (by decide))).symm
  · rw [tlW_r (by decide) (by decide), i6 t ht]
    show _ = sno (fun u => tlW w tl s (nI (6 + d)) g (6 + u) 8) (nI t) tl + px_sb (tlW w tl s (nI (6 + d)) g (6 + tl) 8) (nI t)
    rw [tj 8 (by decide), f8, sb_0 t ht, Int32.add_zero]
    exact (sno_cong tl (fun u hu => by rw [ro u hu])).symm
theorem RE.ar (R : RE h w μ ta wd ht nt nd tl nw) (htl : tl < 16) (hd : d < nd) {s g : Int32} (hg : 0 ≤ g ∧ g ≤ 3) : RE h (tlW w tl s (nI (6 + d)) g) (up2 (up2 (up2 (up2 μ 7 tl s) 8 tl (nI d)) 9 tl g) 0 8 (nI (tl + 1))) ta wd ht nt nd (tl + 1) nw := by
  obtain ⟨B, S, I, z4, C, W, Q, m9, w1, nw4, T, m5, L, F⟩ := R
  obtain ⟨⟨f4, f5, f6, f8, f9⟩, g10, g12, g14⟩ := F tl (Nat.le_refl _) htl
  obtain ⟨t0, t1, t2, t3, tj⟩ := tlW_v (w := w) (tl := tl) (s := s) (e := nI (6 + d)) (g := g)
  have ro : ∀ u, u ≠ tl → tlW w tl s (nI (6 + d)) g (6 + u) = w (6 + u) := fun u hu => tlW_o hu
  have hgr : ∃ gr, gr < 4 ∧ g = nI gr := by
    obtain ⟨m, m1, m2⟩ := nI_of2 (x := g) (M := 3) (n := 3) rfl (fun q => k2_nlt hg.1 q) hg.2
    exact ⟨m, by omega, m2⟩
  have u0 : ∀ j, j ≠ 8 → up2 (up2 (up2 (up2 μ 7 tl s) 8 tl (nI d)) 9 tl g) 0 8 (nI (tl + 1)) 0 j = μ 0 j := fun j hj => by rw [up2_n (Or.inr hj), up2_r (by decide), up2_r (by decide), up2_r (by decide)]
  have ur : ∀ r, r ≠ 0 → r ≠ 7 → r ≠ 8 → r ≠ 9 → up2 (up2 (up2 (up2 μ 7 tl s) 8 tl (nI d)) 9 tl g) 0 8 (nI (tl + 1)) r = μ r := fun r h0 h7 h8 h9 => by rw [up2_r h0, up2_r h9, up2_r h8, up2_r h7]
  refine ⟨B, S, I.tell htl ⟨f4, f5, f6, f8, f9⟩ hd hgr B.1.2.2.2.2.1.1 B.1.2.2.2.2.2.1.1, by rw [tlW_0 (by decide)]; exact z4, ?_, ⟨up2_s, fun v hv => ?_⟩, fun _ => ?_, by rw [u0 9 (by decide)]; exact m9, by rw [tlW_0 (by decide)]; exact w1, nw4, T, by rw [ur 5 (by decide) (by decide) (by decide) (by decide)]; exact m5, fun v hv q => ?_, fun v h1 h2 => ?_⟩
  · obtain ⟨c1, c2, c3, c4, c5, c6, c7, c8, c9, c10⟩ := C
    unfold CH
    rw [u0 1 (by decide), u0 2 (by decide), u0 3 (by decide), u0 4 (by decide), u0 5 (by decide), u0 6 (by decide), u0 7 (by decide), ur 1 (by decide) (by decide) (by decide) (by decide), ur 2 (by decide) (by decide) (by decide) (by decide), ur 3 (by decide) (by decide) (by decide) (by decide), ur 4 (by decide) (by decide) (by decide) (by decide), ur 6 (by decide) (by decide) (by decide) (by decide)]
    exact ⟨c1, c2, c3, c4, c5, c6, c7, c8, c9, c10⟩
  · by_cases q : v = tl
    · subst q
      unfold VR
      rw [t0, t1, t2, tj 4 (by decide), tj 6 (by decide), tj 8 (by decide), f4, f6, f8, ur 10 (by decide) (by decide) (by decide) (by decide), ur 12 (by decide) (by decide) (by decide) (by decide), ur 14 (by decide) (by decide) (by decide) (by decide), g10, g12, g14, up2_r (show (7 : Nat) ≠ 0 by decide), up2_r (show (7 : Nat) ≠ 9 by decide), up2_r (show (7 : Nat) ≠ 8 by decide), up2_r (show (8 : Nat) ≠ 0 by decide), up2_r (show (8 : Nat) ≠ 9 by decide), up2_r (show (9 : Nat) ≠ 0 by decide), up2_s, up2_s, up2_s]
      exact ⟨rfl, ⟨d, hd, rfl, rfl⟩, rfl, rfl, fun q => absurd q (by decide), Or.inl mgI_n.symm, fun t ht q => absurd q.symm (nI_nm1 (by omega)), rfl⟩
    · refine (W.2 v (by omega)).cong (ro v q) (tlW_0 (by decide)) (fun r a b => ?_)
      rw [up2_r (by omega), up2_n (Or.inr q), up2_n (Or.inr q), up2_n (Or.inr q)]
  · rw [tlW_r (by decide) (by decide), tlW_r (r := 3) (by decide) (by decide), tlW_r (r := 4) (by decide) (by decide), ur 16 (by decide) (by decide) (by decide) (by decide), ur 18 (by decide) (by decide) (by decide) (by decide), ur 19 (by decide) (by decide) (by decide) (by decide)]
    exact Q rfl
  · by_cases e : v = tl
    · rw [e, tj 4 (by decide)] at q
      exact absurd f4 q
    · rw [ro v e] at q ⊢
      rw [tlW_0 (by decide)]
      exact L v (by omega) q
  · rw [ro v (by omega), ur 10 (by decide) (by decide) (by decide) (by decide), ur 12 (by decide) (by decide) (by decide) (by decide), ur 14 (by decide) (by decide) (by decide) (by decide)]
    exact F v (by omega) h2
/-! answers -/
theorem re_at (R : RE h w μ ta wd ht nt nd tl nw) {i : Nat} (hi : i < tl) : atV w i x = atM μ i x := by
  obtain ⟨B, S, I, z4, C, W, Q, m9, w1, nw4, T, m5, L, F⟩ := R
  have V := W.2 i hi
  unfold atV atM
  rw [V.2.2.2.1]
  by_cases q : w (6 + i) 4 = 1
  · rw [if_pos q, if_pos q, V.2.2.2.2.1 q]
  · rw [if_neg q, if_neg q]
theorem re_about (R : RE h w μ ta wd ht nt nd tl nw) {i : Nat} (hi : i < tl) : abV w i x = abM μ i x := by
  obtain ⟨B, S, I, z4, C, W, Q, m9, w1, nw4, T, m5, L, F⟩ := R
  have V := W.2 i hi
  have v5 : μ 12 i = mgI (w (6 + i) 6) := V.2.2.2.2.2.1.elim (fun q => q) (fun q => absurd z4 q.1)
  have e4 : ∀ y : Int32, y - 6 + 10 = y + 4 := fun y => by rw [Int32.sub_eq_add_neg, Int32.add_assoc]; rfl
  unfold abV abM
  rw [V.2.2.2.1, v5, V.2.2.2.2.2.2.2, (I.2.1 i hi).2.2.2.2.1, e4]
  rfl
theorem cn_split (hs : ∀ v, v < tl → w (6 + v) 4 = 0 ∨ w (6 + v) 4 = 1 ∨ w (6 + v) 4 = 2) (L : LT1 w tl) : ∀ n, n ≤ tl → cn (fun u => w (6 + u) 0 < w 0 1) n = cn (fun u => w (6 + u) 4 = 0 ∧ w (6 + u) 0 < w 0 1) n + cn (fun u => w (6 + u) 4 = 2) n + cn (fun u => w (6 + u) 4 = 1) n
  | 0, _ => rfl
  | n + 1, hn => by
    have ih := cn_split hs L n (by omega)
    show cn (fun u => w (6 + u) 0 < w 0 1) n + px_if (w (6 + n) 0 < w 0 1) 1 0 = cn (fun u => w (6 + u) 4 = 0 ∧ w (6 + u) 0 < w 0 1) n + px_if (w (6 + n) 4 = 0 ∧ w (6 + n) 0 < w 0 1) 1 0 + (cn (fun u => w (6 + u) 4 = 2) n + px_if (w (6 + n) 4 = 2) 1 0) + (cn (fun u => w (6 + u) 4 = 1) n + px_if (w (6 + n) 4 = 1) 1 0)
    rw [ih]
    rcases hs n (by omega) with q | q | q
    · rw [px_if_f (p := w (6 + n) 4 = 2) (by rw [q]; decide), px_if_f (p := w (6 + n) 4 = 1) (by rw [q]; decide)]
      by_cases q2 : w (6 + n) 0 < w 0 1
      · rw [px_if_t q2, px_if_t ⟨q, q2⟩]
        omega
      · rw [px_if_f q2, px_if_f (fun c => q2 c.2)]
        omega
    · have l := L n (by omega) (by rw [q]; decide)
      rw [px_if_t l, px_if_f (p := w (6 + n) 4 = 0 ∧ w (6 + n) 0 < w 0 1) (fun c => by rw [q] at c; exact absurd c.1 (by decide)), px_if_f (p := w (6 + n) 4 = 2) (by rw [q]; decide), px_if_t q]
      omega
    · have l := L n (by omega) (by rw [q]; decide)
      rw [px_if_t l, px_if_f (p := w (6 + n) 4 = 0 ∧ w (6 + n) 0 < w 0 1) (fun c => by rw [q] at c; exact absurd c.1 (by decide)), px_if_t q, px_if_f (p := w (6 + n) 4 = 1) (by rw [q]; decide)]
      omega
theorem re_count (R : RE h w μ ta wd ht nt nd tl nw) (hx : x = 0 ∨ x = 1 ∨ x = 2 ∨ x = 3 ∨ x = 4 ∨ x = 5) : coV h w tl x = coM μ tl x := by
  obtain ⟨B, S, I, z4, C, W, Q, m9, w1, nw4, T, m5, L, F⟩ := R
  have e5 : dueC w (w 0 1) tl - w 0 2 - w 0 3 = nI (cn (fun v => μ 10 v = 0 ∧ μ 7 v < μ 0 9) tl) := by
    have e1 : cn (fun v => μ 10 v = 0 ∧ μ 7 v < μ 0 9) tl = cn (fun u => w (6 + u) 4 = 0 ∧ w (6 + u) 0 < w 0 1) tl := cn_cong tl (fun u hu => by rw [(W.2 u hu).1, (W.2 u hu).2.2.2.1, m9, w1])
    rw [e1, dueC_cn, cn_split (fun v hv => (I.2.1 v hv).2.2.1) L tl (Nat.le_refl tl), I.2.2.2.1, I.2.2.2.2.1, ← nI_add, ← nI_add, Int32.add_sub_cancel, Int32.add_sub_cancel]
  unfold coV coM
  rw [e5, m9, w1, C.2.2.2.1, C.2.2.2.2.1, W.1, W.ins I, B.1.2.2.1, B.1.2.2.2.1, I.1.1]
end TOP
