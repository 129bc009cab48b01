/-! THE MODEL AND THE WALK: looking -/
section RLO
variable {h w w' μ μ' : Nat → Nat → Int32} {nd nt wd ht tl v u c o g t : Nat} {x : Int32}
def gx (x : Int32) : Prop := x = -1 ∨ ∃ g, g < 10 ∧ x = nI g
theorem mgI_t (ht : t < 6) (hx : gx x) : mgI x = nI t ↔ x = nI t := by
  have d1 : ∀ g, g < 10 → ∀ t, t < 6 → (mgI (nI g) = nI t ↔ nI g = nI t) := by decide +kernel
  rcases hx with q | ⟨g, h1, h2⟩
  · rw [q, mgI_n]
  · rw [h2]
    exact d1 g h1 t ht
theorem vok.gxx (V : vok wd ht nt nd (w (6 + v))) (hnt : nt ≤ 6) (hnd : nd ≤ 4) : gx (w (6 + v) 6) := by
  obtain ⟨-, ⟨o, h1, h2⟩, -⟩ := V
  cases o with
  | none => exact Or.inl h1
  | some g => exact Or.inr ⟨g, isG_10 hnt hnd (h2 g rfl), h1⟩
/-- the model's goal is the thing t when the class's is -/
theorem VR.goal (V : VR h w μ nd v) (hx : gx (w (6 + v) 6)) (hnd : nd ≤ 4) (ht : t < 6) : μ 12 v = nI t ↔ w (6 + v) 6 = nI t := by
  obtain ⟨v0, v1, v2, v3, v4, v5, v6, v7⟩ := V
  rcases v5 with q | ⟨q1, q2, q3, q4⟩
  · rw [q]
    exact mgI_t ht hx
  · rw [q4, q3]
    have hne : ¬ (-1 : Int32) = nI t := fun e => nI_nm1 (a := t) (by omega) e.symm
    refine ⟨fun e => ?_, fun e => absurd e hne⟩
    rcases ndS_inv (h := h) (c := (w (6 + v) 5).toNatClampNeg) nd with q | ⟨e', e1, e2, e3⟩
    · rw [q] at e
      exact absurd (mgI_n.symm.trans e) hne
    · rw [e2] at e
      have := (mgI_t ht (Or.inr ⟨6 + e', by omega, rfl⟩)).mp e
      have := (nI_eq (by omega) (by omega)).mp this
      omega
theorem lkC_iff (C : CW h w μ nd tl) (hs : μ 4 t = h 4 t) (ha : μ 2 t = h 2 t) (ht : t < 6) (hnd : nd ≤ 4) (hv : v < tl) (hg : ∀ z, z < tl → gx (w (6 + z) 6)) (hb : ∀ z, z < tl → ∃ b, b < 64 ∧ w (6 + z) 8 = nI b) (hgo : w (6 + v) 6 = nI t) (hce : w (6 + v) 5 = h 2 t) (hgr : 0 ≤ w (6 + v) 2) : lkC μ v t tl ↔ h 4 t ≤ w (6 + v) 7 ∧ doneG h w v t tl := by
  have hV := C.2 v hv
  have e13 : μ 13 v = w (6 + v) 7 := hV.2.2.2.2.2.2.1 t ht hgo
  have e9 : μ 9 v = w (6 + v) 2 := hV.2.2.1
  unfold lkC
  rw [hs, e13]
  refine and_congr_right (fun _ => ?_)
  have rd : ∀ z, z < tl → w (6 + z) 4 = 1 → (rdy μ z t ↔ ¬ (px_sb (w (6 + z) 8) (nI t) = 0 ∧ ¬ (w (6 + z) 6 = nI t ∧ w (6 + z) 5 = w (6 + v) 5 ∧ h 4 t ≤ w (6 + z) 7))) := by
    intro z hz h1
    have hZ := C.2 z hz
    obtain ⟨b, b1, b2⟩ := hb z hz
    have s01 := sb_01 b b1 t ht
    rw [← b2] at s01
    unfold rdy
    rw [hZ.2.2.2.2.2.2.2, hZ.goal (hg z hz) hnd ht, hZ.2.2.2.2.1 h1, ha, hs, hce]
    constructor
    · rintro (q | ⟨q1, q2, q3⟩)
      · rintro ⟨r1, -⟩
        rw [q] at r1
        exact absurd r1 (by decide)
      · rintro ⟨-, r2⟩
        rw [hZ.2.2.2.2.2.2.1 t ht q1] at q3
        exact r2 ⟨q1, q2, q3⟩
    · intro q
      rcases s01 with r | r
      · have := Classical.not_not.mp (fun q2 => q ⟨r, q2⟩)
        refine Or.inr ⟨this.1, this.2.1, ?_⟩
        rw [hZ.2.2.2.2.2.2.1 t ht this.1]
        exact this.2.2
      · exact Or.inl r
  have wt : ∀ z, z < tl → (wth μ v z ↔ w (6 + z) 4 = 1 ∧ ¬ w (6 + v) 2 ≤ 0 ∧ w (6 + z) 2 = w (6 + v) 2) := by
    intro z hz
    have hZ := C.2 z hz
    unfold wth
    rw [hZ.2.2.2.1, hZ.2.2.1, e9]
  unfold doneG badG
  constructor
  · intro q
    by_cases q0 : w (6 + v) 2 = 0
    · exact Or.inl q0
    · refine Or.inr (fun j hj => ?_)
      rintro ⟨r1, r2, r3⟩
      have hp : ¬ w (6 + v) 2 ≤ 0 := fun q2 => q0 (Int32.le_antisymm q2 hgr)
      exact (rd j hj r2).mp (q j hj ((wt j hj).mpr ⟨r2, hp, r1⟩)) r3
  · intro q z hz hw
    obtain ⟨r1, r2, r3⟩ := (wt z hz).mp hw
    rcases q with q | q
    · exact absurd (by rw [q]; decide) r2
    · exact (rd z hz r1).mpr (fun q2 => q z hz ⟨r3, r1, q2⟩)
theorem lk1_o {r : Nat} (hr : r ≠ 6 + v) : lk1 w v r = w r := up2_r hr
theorem lk1_j {j : Nat} (hj : j ≠ 7) : lk1 w v (6 + v) j = w (6 + v) j := up2_n (Or.inr hj)
theorem lk1_7 : lk1 w v (6 + v) 7 = w (6 + v) 7 + 1 := up2_s
theorem CW.lkk (C : CW h w μ nd tl) (hv : v < tl) : CW h (lk1 w v) (lm1 μ v) nd tl := by
  refine C.one (v := v) (up2_n (Or.inl (by decide))) (fun u hu => lk1_o (by omega)) (by rw [lk1_o (by omega)]) (fun u hu r _ _ => up2_n (Or.inr hu)) ?_
  obtain ⟨v0, v1, v2, v3, v4, v5, v6, v7⟩ := C.2 v hv
  unfold VR lm1
  rw [lk1_j (j := 0) (by decide), lk1_j (j := 1) (by decide), lk1_j (j := 2) (by decide), lk1_j (j := 4) (by decide), lk1_j (j := 5) (by decide), lk1_j (j := 6) (by decide), lk1_j (j := 8) (by decide), lk1_7, lk1_o (r := 0) (by omega)]
  rw [up2_r (r' := 7) (by decide), up2_r (r' := 8) (by decide), up2_r (r' := 9) (by decide), up2_r (r' := 10) (by decide), up2_r (r' := 11) (by decide), up2_r (r' := 12) (by decide), up2_r (r' := 14) (by decide), up2_s]
  exact ⟨v0, v1, v2, v3, v4, v5, fun t ht q => by rw [v6 t ht q], v7⟩
theorem lkD_r {r : Nat} (h4 : r ≠ 4) (hr : r ≠ 6 + v) : lkD w v t r = w r := by
  simp only [lkD]
  rw [trn_r hr, up2_r hr, up2_r hr, up2_r h4]
theorem lkD_j {j : Nat} (h6 : j ≠ 6) (h7 : j ≠ 7) (h8 : j ≠ 8) (h9 : j ≠ 9) : lkD w v t (6 + v) j = w (6 + v) j := by
  simp only [lkD]
  rw [trn_j h6 h7, up2_n (Or.inr h9), up2_n (Or.inr h8), up2_r (by omega)]
theorem lkD_6 : lkD w v t (6 + v) 6 = -1 := by
  simp only [lkD]
  rw [trn_6]
theorem lkD_8 : lkD w v t (6 + v) 8 = w (6 + v) 8 ||| ((1 : Int32) <<< (nI t &&& 31)) := by
  simp only [lkD]
  rw [trn_j (by decide) (by decide), up2_n (Or.inr (by decide)), up2_s, up2_r (by omega)]
theorem lkD_9 : lkD w v t (6 + v) 9 = w (6 + v) 9 + 1 := by
  simp only [lkD]
  rw [trn_j (by decide) (by decide), up2_s, up2_n (Or.inr (by decide)), up2_r (by omega)]
theorem CW.lkd (C : CW h w μ nd tl) (hv : v < tl) : CW h (lkD w v t) (lmD μ v t) nd tl := by
  refine C.one (v := v) (by unfold lmD; rw [up2_r (by decide), up2_r (by decide)]) (fun u hu => lkD_r (by omega) (by omega)) (by rw [lkD_r (by decide) (by omega)]) (fun u hu r _ _ => by unfold lmD; rw [up2_n (Or.inr hu), up2_n (Or.inr hu)]) ?_
  obtain ⟨v0, v1, v2, v3, v4, v5, v6, v7⟩ := C.2 v hv
  unfold VR lmD
  rw [lkD_j (j := 0) (by decide) (by decide) (by decide) (by decide), lkD_j (j := 1) (by decide) (by decide) (by decide) (by decide), lkD_j (j := 2) (by decide) (by decide) (by decide) (by decide), lkD_j (j := 4) (by decide) (by decide) (by decide) (by decide), lkD_j (j := 5) (by decide) (by decide) (by decide) (by decide), lkD_6, lkD_8]
  simp only [up2_r (show (7 : Nat) ≠ 12 by decide), up2_r (show (7 : Nat) ≠ 14 by decide), up2_r (show (8 : Nat) ≠ 12 by decide), up2_r (show (8 : Nat) ≠ 14 by decide), up2_r (show (9 : Nat) ≠ 12 by decide), up2_r (show (9 : Nat) ≠ 14 by decide), up2_r (show (10 : Nat) ≠ 12 by decide), up2_r (show (10 : Nat) ≠ 14 by decide), up2_r (show (11 : Nat) ≠ 12 by decide), up2_r (show (11 : Nat) ≠ 14 by decide), up2_r (show (14 : Nat) ≠ 12 by decide), up2_s]
  exact ⟨v0, v1, v2, v3, v4, Or.inl mgI_n.symm, fun t ht q => absurd q.symm (nI_nm1 (by omega)), by rw [v7]⟩
/-- looking keeps who corresponds to whom -/
theorem CW.look (C : CW h w μ nd tl) (hs : μ 4 t = h 4 t) (ha : μ 2 t = h 2 t) (ht : t < 6) (hnd : nd ≤ 4) (hv : v < tl) (hg : ∀ z, z < tl → gx (w (6 + z) 6)) (hb : ∀ z, z < tl → ∃ b, b < 64 ∧ w (6 + z) 8 = nI b) (hgo : w (6 + v) 6 = nI t) (hce : w (6 + v) 5 = h 2 t) (hgr : 0 ≤ w (6 + v) 2) : CW h (lkW h w v t tl) (lkM μ v t tl) nd tl := by
  have C1 := C.lkk hv
  have row : ∀ z j, j ≠ 7 → lk1 w v (6 + z) j = w (6 + z) j := fun z j hj => by
    by_cases q : z = v
    · rw [q, lk1_j hj]
    · rw [lk1_o (by omega)]
  have iff := lkC_iff C1 (h := h) (t := t) (by unfold lm1; rw [up2_r (by decide)]; exact hs) (by unfold lm1; rw [up2_r (by decide)]; exact ha) ht hnd hv (fun z hz => by rw [row z 6 (by decide)]; exact hg z hz) (fun z hz => by rw [row z 8 (by decide)]; exact hb z hz) (by rw [row v 6 (by decide)]; exact hgo) (by rw [row v 5 (by decide)]; exact hce) (by rw [row v 2 (by decide)]; exact hgr)
  unfold lkW lkM
  by_cases q : h 4 t ≤ lk1 w v (6 + v) 7 ∧ doneG h (lk1 w v) v t tl
  · rw [px_if_t q, px_if_t (iff.mpr q)]
    exact C1.lkd hv
  · rw [px_if_f q, px_if_f (fun q2 => q (iff.mp q2))]
    exact C1
end RLO
