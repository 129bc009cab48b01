/-! THE MODEL AND THE WALK: who corresponds to whom -/
def VR (h w μ : Nat → Nat → Int32) (nd v : Nat) : Prop := μ 7 v = w (6 + v) 0 ∧ (∃ d, d < nd ∧ μ 8 v = nI d ∧ w (6 + v) 1 = nI (6 + d)) ∧ μ 9 v = w (6 + v) 2 ∧ μ 10 v = w (6 + v) 4 ∧ (w (6 + v) 4 = 1 → μ 11 v = w (6 + v) 5) ∧
  (μ 12 v = mgI (w (6 + v) 6) ∨ (¬ w 0 4 = 0 ∧ w (6 + v) 4 = 1 ∧ w (6 + v) 6 = -1 ∧ μ 12 v = mgI (ndS h (w (6 + v) 5).toNatClampNeg nd).1)) ∧ (∀ t, t < 6 → w (6 + v) 6 = nI t → μ 13 v = w (6 + v) 7) ∧ μ 14 v = w (6 + v) 8
def CW (h w μ : Nat → Nat → Int32) (nd tl : Nat) : Prop := μ 0 8 = nI tl ∧ ∀ v, v < tl → VR h w μ nd v
/-- counters, where they are wanted -/
def CC (b : Bool) (w μ : Nat → Nat → Int32) (ht : Nat) : Prop := b = true → (∀ c, c < 12 * ht → μ 16 c = w 2 c) ∧ ∀ d, d < 4 → μ 18 d = w 3 (6 + d) ∧ μ 19 d = w 4 (6 + d)
/-- what a second leaves of the model -/
def FrM (μ μ' : Nat → Nat → Int32) (tl : Nat) : Prop := (∀ r, (r ≤ 9 ∨ r = 15 ∨ r = 17 ∨ 20 ≤ r) → μ' r = μ r) ∧ ∀ r v, tl ≤ v → 10 ≤ r → r ≤ 14 → μ' r v = μ r v
section REL
variable {h w w' μ μ' μ2 : Nat → Nat → Int32} {nd nt wd ht tl v u c o g t : Nat} {x : Int32} {b : Bool}
theorem FrM.rf : FrM μ μ tl := ⟨fun _ _ => rfl, fun _ _ _ _ _ => rfl⟩
theorem FrM.tr (h1 : FrM μ μ' tl) (h2 : FrM μ' μ2 tl) : FrM μ μ2 tl := ⟨fun r hr => (h2.1 r hr).trans (h1.1 r hr), fun r v a b c => (h2.2 r v a b c).trans (h1.2 r v a b c)⟩
theorem FrM.up {r j : Nat} (hv : 10 ≤ r ∧ r ≤ 14 ∧ j < tl) : FrM μ (up2 μ r j x) tl := ⟨fun r' hr => up2_r (by omega), fun r' v a b c => up2_n (by omega)⟩
theorem FrM.uk {r j : Nat} (hv : r = 16 ∨ r = 18 ∨ r = 19) : FrM μ (up2 μ r j x) tl := ⟨fun r' hr => up2_r (by omega), fun r' v a b c => up2_n (by omega)⟩
theorem VR.cong (V : VR h w μ nd v) (h1 : w' (6 + v) = w (6 + v)) (h0 : w' 0 4 = w 0 4) (hm : ∀ r, 7 ≤ r → r ≤ 14 → μ' r v = μ r v) : VR h w' μ' nd v := by
  unfold VR at V ⊢
  rw [h1, h0, hm 7 (by decide) (by decide), hm 8 (by decide) (by decide), hm 9 (by decide) (by decide), hm 10 (by decide) (by decide), hm 11 (by decide) (by decide), hm 12 (by decide) (by decide), hm 13 (by decide) (by decide), hm 14 (by decide) (by decide)]
  exact V
/-- only visitor v changes -/
theorem CW.one (C : CW h w μ nd tl) (h8 : μ' 0 8 = μ 0 8) (ho : ∀ u, u ≠ v → w' (6 + u) = w (6 + u)) (h0 : w' 0 4 = w 0 4) (hm : ∀ u, u ≠ v → ∀ r, 7 ≤ r → r ≤ 14 → μ' r u = μ r u) (hv : VR h w' μ' nd v) : CW h w' μ' nd tl := by
  refine ⟨by rw [h8]; exact C.1, fun u hu => ?_⟩
  by_cases q : u = v
  · rw [q]; exact hv
  · exact (C.2 u hu).cong (ho u q) h0 (hm u q)
theorem trn_o (hu : u ≠ v) : trn w v x (6 + u) = w (6 + u) := by unfold trn; rw [up2_r (by omega), up2_r (by omega)]
theorem trn_0 : trn w v x 0 = w 0 := by unfold trn; rw [up2_r (by omega), up2_r (by omega)]
theorem trn_r {r : Nat} (hr : r ≠ 6 + v) : trn w v x r = w r := by unfold trn; rw [up2_r hr, up2_r hr]
theorem trn_6 : trn w v x (6 + v) 6 = x := by unfold trn; rw [up2_n (Or.inr (by decide)), up2_s]
theorem trn_7 : trn w v x (6 + v) 7 = 0 := by unfold trn; rw [up2_s]
theorem trn_j {j : Nat} (h6 : j ≠ 6) (h7 : j ≠ 7) : trn w v x (6 + v) j = w (6 + v) j := by unfold trn; rw [up2_n (Or.inr h7), up2_n (Or.inr h6)]
/-- v turns to x in both -/
theorem VR.turn (V : VR h w μ nd v) : VR h (trn w v x) (up2 (up2 μ 12 v (mgI x)) 13 v 0) nd v := by
  obtain ⟨v0, v1, v2, v3, v4, v5, v6, v7⟩ := V
  unfold VR
  rw [trn_j (j := 0) (by decide) (by decide), trn_j (j := 1) (by decide) (by decide), trn_j (j := 2) (by decide) (by decide), trn_j (j := 4) (by decide) (by decide), trn_j (j := 5) (by decide) (by decide), trn_j (j := 8) (by decide) (by decide), trn_6, trn_7]
  rw [up2_r (r' := 7) (by decide), up2_r (r' := 7) (by decide), up2_r (r' := 8) (by decide), up2_r (r' := 8) (by decide), up2_r (r' := 9) (by decide), up2_r (r' := 9) (by decide), up2_r (r' := 10) (by decide), up2_r (r' := 10) (by decide), up2_r (r' := 11) (by decide), up2_r (r' := 11) (by decide), up2_r (r' := 14) (by decide), up2_r (r' := 14) (by decide), up2_r (r := 13) (r' := 12) (by decide), up2_s, up2_s]
  exact ⟨v0, v1, v2, v3, v4, Or.inl rfl, fun _ _ _ => rfl, v7⟩
theorem CW.turn (C : CW h w μ nd tl) (hv : v < tl) : CW h (trn w v x) (up2 (up2 μ 12 v (mgI x)) 13 v 0) nd tl :=
  C.one (v := v) (by rw [up2_r (by decide), up2_r (by decide)]) (fun u hu => trn_o hu) (by rw [trn_0]) (fun u hu r _ _ => by rw [up2_n (Or.inr hu), up2_n (Or.inr hu)]) (C.2 v hv).turn
/-- fleeing, the model chose at once what the class chooses now -/
theorem CW.lazy (C : CW h w μ nd tl) (hv : v < tl) (hm : μ 12 v = mgI x) (hx : ∀ t, t < 6 → ¬ x = nI t) : CW h (trn w v x) μ nd tl := by
  refine C.one (v := v) rfl (fun u hu => trn_o hu) (by rw [trn_0]) (fun _ _ _ _ _ => rfl) ?_
  obtain ⟨v0, v1, v2, v3, v4, v5, v6, v7⟩ := C.2 v hv
  unfold VR
  rw [trn_j (j := 0) (by decide) (by decide), trn_j (j := 1) (by decide) (by decide), trn_j (j := 2) (by decide) (by decide), trn_j (j := 4) (by decide) (by decide), trn_j (j := 5) (by decide) (by decide), trn_j (j := 8) (by decide) (by decide), trn_6, trn_7]
  exact ⟨v0, v1, v2, v3, v4, Or.inl hm, fun t ht q => absurd q (hx t ht), v7⟩
theorem stW_v {r : Nat} (h1 : r ≠ 1) (hr : r ≠ 6 + v) : stW w v c o r = w r := by simp only [stW]; rw [up2_r hr, up2_r h1, up2_r h1]
theorem stW_5 : stW w v c o (6 + v) 5 = nI o := by simp only [stW]; rw [up2_s]
theorem stW_j {j : Nat} (hj : j ≠ 5) : stW w v c o (6 + v) j = w (6 + v) j := by simp only [stW]; rw [up2_n (Or.inr hj), up2_r (by omega), up2_r (by omega)]
theorem CW.step (C : CW h w μ nd tl) (hv : v < tl) (hg : μ 12 v = mgI (w (6 + v) 6)) : CW h (stW w v c o) (up2 μ 11 v (nI o)) nd tl := by
  refine C.one (v := v) (up2_n (Or.inl (by decide))) (fun u hu => stW_v (by omega) (by omega)) (by rw [stW_v (by decide) (by omega)]) (fun u hu r _ _ => up2_n (Or.inr hu)) ?_
  obtain ⟨v0, v1, v2, v3, v4, v5, v6, v7⟩ := C.2 v hv
  unfold VR
  rw [stW_j (j := 0) (by decide), stW_j (j := 1) (by decide), stW_j (j := 2) (by decide), stW_j (j := 4) (by decide), stW_j (j := 6) (by decide), stW_j (j := 7) (by decide), stW_j (j := 8) (by decide), stW_5]
  rw [up2_r (r' := 7) (by decide), up2_r (r' := 8) (by decide), up2_r (r' := 9) (by decide), up2_r (r' := 10) (by decide), up2_r (r' := 12) (by decide), up2_r (r' := 13) (by decide), up2_r (r' := 14) (by decide), up2_s]
  exact ⟨v0, v1, v2, v3, fun _ => rfl, Or.inl hg, v6, v7⟩
/-- the same cell written again -/
theorem CW.same (C : CW h w μ nd tl) {r : Nat} : CW h w (up2 μ r v (μ r v)) nd tl := by
  have e : up2 μ r v (μ r v) = μ := by
    funext r' i'
    unfold up2
    split
    · rename_i q
      rw [q.1, q.2]
    · rfl
  rw [e]
  exact C
theorem outW_r {r : Nat} (h0 : r ≠ 0) (h1 : r ≠ 1) (h4 : r ≠ 4) (hr : r ≠ 6 + v) : outW w v c g r = w r := by
  simp only [outW]
  rw [trn_r hr, up2_r hr, up2_r h0, up2_r h0, up2_r h1, up2_r h4]
theorem outW_04 : outW w v c g 0 4 = w 0 4 := by
  simp only [outW]
  rw [trn_0, up2_r (by omega), up2_n (by decide), up2_n (by decide), up2_r (by decide), up2_r (by decide)]
theorem outW_4 : outW w v c g (6 + v) 4 = 2 := by
  simp only [outW]
  rw [trn_j (by decide) (by decide), up2_s]
theorem outW_6 : outW w v c g (6 + v) 6 = -1 := by
  simp only [outW]
  rw [trn_6]
theorem outW_j {j : Nat} (h4 : j ≠ 4) (h6 : j ≠ 6) (h7 : j ≠ 7) : outW w v c g (6 + v) j = w (6 + v) j := by
  simp only [outW]
  rw [trn_j h6 h7, up2_n (Or.inr h4), up2_r (by omega), up2_r (by omega), up2_r (by omega), up2_r (by omega)]
theorem CW.out (C : CW h w μ nd tl) (hv : v < tl) {y : Int32} {d : Nat} : CW h (outW w v c g) (up2 (up2 (up2 μ 10 v 2) 19 d y) 12 v (-1)) nd tl := by
  refine C.one (v := v) (by rw [up2_r (by decide), up2_r (by decide), up2_r (by decide)]) (fun u hu => outW_r (by omega) (by omega) (by omega) (by omega)) outW_04 (fun u hu r _ _ => by rw [up2_n (Or.inr hu), up2_n (Or.inl (by omega)), up2_n (Or.inr hu)]) ?_
  obtain ⟨v0, v1, v2, v3, v4, v5, v6, v7⟩ := C.2 v hv
  unfold VR
  rw [outW_j (j := 0) (by decide) (by decide) (by decide), outW_j (j := 1) (by decide) (by decide) (by decide), outW_j (j := 2) (by decide) (by decide) (by decide), outW_j (j := 5) (by decide) (by decide) (by decide), outW_j (j := 8) (by decide) (by decide) (by decide), outW_4, outW_6]
  simp only [up2_r (show (7 : Nat) ≠ 12 by decide), up2_r (show (7 : Nat) ≠ 19 by decide), up2_r (show (7 : Nat) ≠ 10 by decide), up2_r (show (8 : Nat) ≠ 12 by decide), up2_r (show (8 : Nat) ≠ 19 by decide), up2_r (show (8 : Nat) ≠ 10 by decide), up2_r (show (9 : Nat) ≠ 12 by decide), up2_r (show (9 : Nat) ≠ 19 by decide), up2_r (show (9 : Nat) ≠ 10 by decide), up2_r (show (10 : Nat) ≠ 12 by decide), up2_r (show (10 : Nat) ≠ 19 by decide), up2_r (show (14 : Nat) ≠ 12 by decide), up2_r (show (14 : Nat) ≠ 19 by decide), up2_r (show (14 : Nat) ≠ 10 by decide), up2_s]
  exact ⟨v0, v1, v2, trivial, fun q => absurd q (by decide), Or.inl mgI_n.symm, fun t ht q => absurd q.symm (nI_nm1 (by omega)), v7⟩
end REL
