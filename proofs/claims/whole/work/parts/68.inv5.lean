/-! THE WALK'S INVARIANT: back to the start -/
section IN5
variable {h w w' wt : Nat → Nat → Int32} {n nt nd wd ht v tl : Nat} {x : Int32}
theorem gbI_o {i u : Nat} (hu : u ≠ i) : gbI i w (6 + u) = w (6 + u) := by
  unfold gbI
  rw [up2_r (by omega), up2_r (by omega), trn_o hu, up2_r (by omega), up2_r (by omega)]
theorem gbI_v {i : Nat} : gbI i w (6 + i) 4 = 0 ∧ gbI i w (6 + i) 5 = 0 ∧ gbI i w (6 + i) 6 = -1 ∧ gbI i w (6 + i) 7 = 0 ∧ gbI i w (6 + i) 8 = 0 ∧ gbI i w (6 + i) 9 = 0 ∧ ∀ j, j < 4 → gbI i w (6 + i) j = w (6 + i) j := by
  unfold gbI
  refine ⟨?_, ?_, ?_, ?_, ?_, ?_, fun j hj => ?_⟩
  · rw [up2_n (Or.inr (by decide)), up2_n (Or.inr (by decide)), trn_j (by decide) (by decide), up2_n (Or.inr (by decide)), up2_s]
  · rw [up2_n (Or.inr (by decide)), up2_n (Or.inr (by decide)), trn_j (by decide) (by decide), up2_s]
  · rw [up2_n (Or.inr (by decide)), up2_n (Or.inr (by decide)), trn_6]
  · rw [up2_n (Or.inr (by decide)), up2_n (Or.inr (by decide)), trn_7]
  · rw [up2_n (Or.inr (by decide)), up2_s]
  · rw [up2_s]
  · rw [up2_n (Or.inr (by omega)), up2_n (Or.inr (by omega)), trn_j (by omega) (by omega), up2_n (Or.inr (by omega)), up2_n (Or.inr (by omega))]
theorem gbK_v : ∀ k u, u < k → px_it gbI k w (6 + u) 4 = 0 ∧ px_it gbI k w (6 + u) 5 = 0 ∧ px_it gbI k w (6 + u) 6 = -1 ∧ px_it gbI k w (6 + u) 7 = 0 ∧ px_it gbI k w (6 + u) 8 = 0 ∧ px_it gbI k w (6 + u) 9 = 0 ∧ ∀ j, j < 4 → px_it gbI k w (6 + u) j = w (6 + u) j
  | 0, u, h => absurd h (Nat.not_lt_zero u)
  | k + 1, u, h => by
    have keep : ∀ k u, k ≤ u → px_it gbI k w (6 + u) = w (6 + u) := by
      intro k
      induction k with
      | zero => intro u _; rfl
      | succ k ih => intro u hu; rw [it_s, gbI_o (by omega)]; exact ih u (by omega)
    rw [it_s]
    by_cases q : u = k
    · subst q
      obtain ⟨a, b, c, d, e, f, g⟩ := gbI_v (i := u) (w := px_it gbI u w)
      exact ⟨a, b, c, d, e, f, fun j hj => by rw [g j hj, keep u u (Nat.le_refl u)]⟩
    · rw [gbI_o q]
      exact gbK_v k u (by omega)
theorem gbW_v {u : Nat} (hu : u < tl) : gbW w tl (6 + u) 4 = 0 ∧ gbW w tl (6 + u) 5 = 0 ∧ gbW w tl (6 + u) 6 = -1 ∧ gbW w tl (6 + u) 7 = 0 ∧ gbW w tl (6 + u) 8 = 0 ∧ gbW w tl (6 + u) 9 = 0 ∧ ∀ j, j < 4 → gbW w tl (6 + u) j = w (6 + u) j := by
  have e : gbW w tl (6 + u) = px_it gbI tl w (6 + u) := by
    unfold gbW
    rw [up2_r (by omega), up2_r (by omega), up2_r (by omega), upr_n (by omega), upr_n (by omega), upr_n (by omega), upr_n (by omega)]
  rw [e]
  exact gbK_v tl u hu
theorem cn_0 {p : Nat → Prop} : ∀ n, (∀ u, u < n → ¬ p u) → cn p n = 0
  | 0, _ => rfl
  | n + 1, H => by
    show cn p n + px_if (p n) 1 0 = 0
    rw [cn_0 n (fun u hu => H u (by omega)), px_if_f (H n (by omega))]
end IN5
