/-! THE WALK'S INVARIANT: back to the start -/
section IN5
variable {h w w' wt : Nat → Nat → Int32} {n nt nd wd ht v tl : Nat} {x : Int32}
theorem gbI_o {i u : Nat} (hu : u ≠ i) : gbI i w (6 + u) = w (6 + u) := by
  unfold gbI
  rw [up2_r (by omega), up2_r (by omega), trn_o hu, up2_r (by omega), up2_r (by omega)]
theorem gbI_v {i : Nat} : gbI i w (6 + i) 4 = 0 ∧ gbI i w (6 + i) 5 = 0 ∧ gbI i w (6 + i) 6 = -1 ∧ gbI i w (6 + i) 7 = 0 ∧ gbI i w (6 + i) 8 = 0 ∧ gbI i w (6 + i) 9 = 0 ∧ ∀ j, j < 4 → gbI i w (6 + i) j = w (6 + i) j := by
  unfold gbI
  refine ⟨?_, ?_, ?_, ?_, ?_, ?_, fun j hj => ?_⟩
  · rw [up2_n (Or.inr (by decide)), up2_n (Or.inr (by decide)), trn_j (by decide) (by decide), up2_n (Or.inr (by decide)), up2_s]
  · rw [up2_n (Or.inr (by decide)), up2_n (Or.inr (by decide)), trn_j (by decide) (by decide), up2_s]
  · rw [up2_n (Or.inr (by decide)), up2_n (Or.inr (by decide)), trn_6]
  · rw [up2_n (Or.inr (by decide)), up2_n (Or.inr (by decide)), trn_7]
  · rw [up2_n (Or.inr (by decide)), up2_s]
  · rw [up2_s]
  · rw [up2_n (Or.inr (by omega)), up2_n (Or.inr (by omega)), trn_j (by omega) (by omega), up2_n (Or.inr (by omega)), up2_n (Or.inr (by omega))]
theorem gbK_v : ∀ k u, u < k → px_it gbI k w (6 + u) 4 = 0 ∧ px_it gbI k w (6 + u) 5 = 0 ∧ px_it gbI k w (6 + u) 6 = -1 ∧ px_it gbI k w (6 + u) 7 = 0 ∧ px_it gbI k w (6 + u) 8 = 0 ∧ px_it gbI k w (6 + u) 9 = 0 ∧ ∀ j, j < 4 → px_it gbI k w (6 + u) j = w (6 + u) j
  | 0, u, h => absurd h (Nat.not_lt_zero u)
  | k + 1, u, h => by
    have keep : ∀ k u, k ≤ u → px_it gbI k w (6 + u) = w (6 + u) := by
      intro k
      induction k with
      | zero => intro u _; rfl
      | succ k ih => intro u hu; rw [it_s, gbI_o (by omega)]; exact ih u (by omega)
    rw [it_s]
    by_cases q : u = k
    · subst q
      obtain ⟨a, b, c, d, e, f, g⟩ := gbI_v (i := u) (w := px_it gbI u w)
      exact ⟨a, b, c, d, e, f, fun j hj => by rw [g j hj, keep u u (Nat.le_refl u)]⟩
    · rw [gbI_o q]
      exact gbK_v k u (by omega)
theorem gbW_v {u : Nat} (hu : u < tl) : gbW w tl (6 + u) 4 = 0 ∧ gbW w tl (6 + u) 5 = 0 ∧ gbW w tl (6 + u) 6 = -1 ∧ gbW w tl (6 + u) 7 = 0 ∧ gbW w tl (6 + u) 8 = 0 ∧ gbW w tl (6 + u) 9 = 0 ∧ ∀ j, j < 4 → gbW w tl (6 + u) j = w (6 + u) j := by
  have e : gbW w tl (6 + u) = px_it gbI tl w (6 + u) := by
    unfold gbW
    rw [up2_r (by omega), up2_r (by omega), up2_r (by omega), upr_n (by omega), upr_n (by omega), upr_n (by omega), upr_n (by omega)]
  rw [e]
  exact gbK_v tl u hu
theorem cn_0 {p : Nat → Prop} : ∀ n, (∀ u, u < n → ¬ p u) → cn p n = 0
  | 0, _ => rfl
  | n + 1, H => by
    show cn p n + px_if (p n) 1 0 = 0
    rw [cn_0 n (fun u hu => H u (by omega)), px_if_f (H n (by omega))]
theorem sno_0 {s : Nat → Int32} : ∀ n, (∀ u, u < n → px_sb (s u) x = 0) → sno s x n = 0
  | 0, _ => rfl
  | n + 1, H => by
    show sno s x n + px_sb (s n) x = 0
    rw [sno_0 n (fun u hu => H u (by omega)), H n (by omega)]
    rfl
theorem gbW_z : gbW w tl 0 1 = 0 ∧ gbW w tl 0 2 = 0 ∧ gbW w tl 0 3 = 0 ∧ gbW w tl 1 = (fun _ => 0) ∧ gbW w tl 4 = fun _ => 0 := by
  unfold gbW
  refine ⟨?_, ?_, ?_, ?_, ?_⟩
  · rw [up2_n (Or.inr (by decide)), up2_n (Or.inr (by decide)), up2_s]
  · rw [up2_n (Or.inr (by decide)), up2_s]
  · rw [up2_s]
  · rw [up2_r (by decide), up2_r (by decide), up2_r (by decide), upr_n (by decide), upr_n (by decide), upr_n (by decide), upr_s]
  · rw [up2_r (by decide), up2_r (by decide), up2_r (by decide), upr_s]
theorem INV.bk (I : INV w wd ht nt nd tl) (B : HF h wd ht nt nd n) : INV (gbW w tl) wd ht nt nd tl := by
  obtain ⟨i1, i2, i3, i4, i5, i6⟩ := I
  obtain ⟨z1, z2, z3, z4, z5⟩ := gbW_z (w := w) (tl := tl)
  have st : ∀ u, u < tl → gbW w tl (6 + u) 4 = 0 := fun u hu => (gbW_v hu).1
  refine ⟨gbW_F B i1, fun z hz => ?_, fun a ha => ?_, ?_, ?_, fun t ht => ?_⟩
  · obtain ⟨v1, v2, -⟩ := i2 z hz
    obtain ⟨a4, a5, a6, a7, a8, a9, aj⟩ := gbW_v (w := w) hz
    have k2 := v2.cb (w' := gbW w tl) (fun u hu => (gbW_v (w := w) (tl := tl) (u := u) (by omega)).2.2.2.2.2.2 2 (by decide)) (aj 3 (by decide))
    unfold VI
    rw [aj 2 (by decide), a4, a6, a8, a9]
    exact ⟨v1, k2, Or.inl rfl, ⟨0, by decide, rfl⟩, by decide, fun t ht e => absurd e.symm (nI_nm1 (by omega)), fun _ => rfl⟩
  · rw [z4, cn_0 tl (fun u hu q => by rw [st u hu] at q; exact absurd q.1 (by decide))]
    rfl
  · rw [z2, cn_0 tl (fun u hu q => by rw [st u hu] at q; exact absurd q (by decide))]
    rfl
  · rw [z3, cn_0 tl (fun u hu q => by rw [st u hu] at q; exact absurd q (by decide))]
    rfl
  · rw [z5, sno_0 tl (fun u hu => by show px_sb (gbW w tl (6 + u) 8) (nI t) = 0; rw [(gbW_v hu).2.2.2.2.1]; exact sb_0 t ht)]
end IN5
