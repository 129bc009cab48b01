/-! THE WALK'S INVARIANT: copies, fleeing -/
section IN4
variable {h w w' wt : Nat → Nat → Int32} {n nt nd wd ht v tl : Nat} {x : Int32}
theorem KS.cb (k : KS w v) (h2 : ∀ u, u ≤ v → w' (6 + u) 2 = w (6 + u) 2) (h3 : w' (6 + v) 3 = w (6 + v) 3) : KS w' v := by
  obtain ⟨m, m1, m2, m3, m4⟩ := k
  refine ⟨m, m1, by rw [h3]; exact m2, by rw [h2 v (Nat.le_refl v)]; exact m3, fun q => ?_⟩
  rw [h2 v (Nat.le_refl v)] at q
  rw [h2 v (Nat.le_refl v), h2 m m1]
  exact ⟨(m4 q).1, fun j hj => by rw [h2 j (by omega)]; exact (m4 q).2 j hj⟩
/-- all the same but for goals, which are as they were or none -/
theorem INV.cb (I : INV w wd ht nt nd tl) (hF : WF w' wd ht nt nd tl) (hr : ∀ u, u < tl → ∀ j, j ≠ 6 → j ≠ 7 → w' (6 + u) j = w (6 + u) j) (hg : ∀ u, u < tl → w' (6 + u) 6 = w (6 + u) 6 ∨ w' (6 + u) 6 = -1) (h1 : w' 1 = w 1) (h4 : w' 4 = w 4) (h2 : w' 0 2 = w 0 2) (h3 : w' 0 3 = w 0 3) : INV w' wd ht nt nd tl := by
  obtain ⟨i1, i2, i3, i4, i5, i6⟩ := I
  refine ⟨hF, fun z hz => ?_, fun a ha => ?_, ?_, ?_, fun t ht => ?_⟩
  · obtain ⟨v1, v2, v3, v4, v5, v6, v7⟩ := i2 z hz
    have k2 := v2.cb (w' := w') (fun u hu => hr u (by omega) 2 (by decide) (by decide)) (hr z hz 3 (by decide) (by decide))
    unfold VI
    rw [hr z hz 2 (by decide) (by decide), hr z hz 4 (by decide) (by decide), hr z hz 8 (by decide) (by decide), hr z hz 9 (by decide) (by decide)]
    rcases hg z hz with q | q
    · rw [q]
      exact ⟨v1, k2, v3, v4, v5, v6, v7⟩
    · rw [q]
      exact ⟨v1, k2, v3, v4, v5, fun t ht e => absurd e.symm (nI_nm1 (by omega)), fun _ => rfl⟩
  · rw [h1, i3 a ha]
    congr 1
    exact cn_cong tl (fun u hu => by rw [hr u hu 4 (by decide) (by decide), hr u hu 5 (by decide) (by decide)])
  · rw [h2, i4]
    congr 1
    exact cn_cong tl (fun u hu => by rw [hr u hu 4 (by decide) (by decide)])
  · rw [h3, i5]
    congr 1
    exact cn_cong tl (fun u hu => by rw [hr u hu 4 (by decide) (by decide)])
  · rw [h4, i6 t ht]
    exact sno_cong tl (fun u hu => by rw [hr u hu 8 (by decide) (by decide)])
theorem INV.cp (I : INV w wd ht nt nd tl) : INV (cpW w wt tl) wd ht nt nd tl :=
  I.cb (cpW_F I.1) (fun u hu j _ _ => by rw [cpW_v hu]) (fun u hu => Or.inl (by rw [cpW_v hu])) (cpW_r (by decide) (by decide)) (cpW_r (by decide) (by decide)) cpW_0.2.2.1 cpW_0.2.2.2.1
theorem flI_r {r : Nat} : ∀ k, (∀ u, u < k → r ≠ 6 + u) → px_it (fun i w => trn w i (-1)) k w r = w r
  | 0, _ => rfl
  | k + 1, H => by
    show trn (px_it (fun i w => trn w i (-1)) k w) k (-1) r = w r
    rw [trn_r (H k (by omega)), flI_r k (fun u hu => H u (by omega))]
theorem flI_v : ∀ k u, u < k → px_it (fun i w => trn w i (-1)) k w (6 + u) 6 = -1 ∧ px_it (fun i w => trn w i (-1)) k w (6 + u) 7 = 0 ∧ ∀ j, j ≠ 6 → j ≠ 7 → px_it (fun i w => trn w i (-1)) k w (6 + u) j = w (6 + u) j
  | 0, u, h => absurd h (Nat.not_lt_zero u)
  | k + 1, u, h => by
    show trn (px_it (fun i w => trn w i (-1)) k w) k (-1) (6 + u) 6 = -1 ∧ trn (px_it (fun i w => trn w i (-1)) k w) k (-1) (6 + u) 7 = 0 ∧ ∀ j, j ≠ 6 → j ≠ 7 → trn (px_it (fun i w => trn w i (-1)) k w) k (-1) (6 + u) j = w (6 + u) j
    by_cases q : u = k
    · subst q
      refine ⟨trn_6, trn_7, fun j h6 h7 => ?_⟩
      rw [trn_j h6 h7, flI_r u (fun a ha => by omega)]
    · rw [trn_o q]
      exact flI_v k u (by omega)
theorem flW_v {u : Nat} (hu : u < tl) : flW w tl (6 + u) 6 = -1 ∧ flW w tl (6 + u) 7 = 0 ∧ ∀ j, j ≠ 6 → j ≠ 7 → flW w tl (6 + u) j = w (6 + u) j := by
  have h := flI_v (w := up2 w 0 4 1) tl u hu
  exact ⟨h.1, h.2.1, fun j h6 h7 => by rw [show flW w tl (6 + u) j = up2 w 0 4 1 (6 + u) j from h.2.2 j h6 h7, up2_r (by omega)]⟩
theorem flW_r {r : Nat} (hr : r < 6) : flW w tl r = up2 w 0 4 1 r := flI_r tl (fun u _ => by omega)
theorem INV.fl (I : INV w wd ht nt nd tl) : INV (flW w tl) wd ht nt nd tl :=
  I.cb (flW_F I.1) (fun u hu j h6 h7 => (flW_v hu).2.2 j h6 h7) (fun u hu => Or.inr (flW_v hu).1) (by rw [flW_r (by decide), up2_r (by decide)]) (by rw [flW_r (by decide), up2_r (by decide)]) (by rw [flW_r (by decide), up2_n (by decide)]) (by rw [flW_r (by decide), up2_n (by decide)])
end IN4
