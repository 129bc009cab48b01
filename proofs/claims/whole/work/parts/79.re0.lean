/-! BOTH TOGETHER: at the start -/
section RE0
variable {μ : Nat → Nat → Int32} {wd ht : Nat} {s : Int32}
theorem btw_sd : ∃ m, m ≤ 65536 ∧ btw s 0 65536 = nI m := by
  unfold btw
  by_cases a : s < 65536
  · simp only [if_pos a]
    by_cases b : 0 < s
    · rw [if_pos b]
      refine nI_of2 (M := 65536) (n := 65536) rfl (fun c => ?_) ?_
      · rw [Int32.lt_iff_toInt_lt] at b c
        omega
      · rw [Int32.lt_iff_toInt_lt] at a
        rw [Int32.le_iff_toInt_le]
        omega
    · rw [if_neg b]
      exact ⟨0, by decide, rfl⟩
  · simp only [if_neg a]
    rw [if_pos (by decide)]
    exact ⟨65536, Nat.le_refl _, rfl⟩
theorem RE.i0 (hw : 4 ≤ wd ∧ wd ≤ 12) (hh : 4 ≤ ht ∧ ht ≤ 12) (M : MI μ (nI wd) (nI ht) (btw s 0 65536)) : RE (hI0 wd ht (btw s 0 65536)) wI0 μ (fun _ => -1) wd ht 0 0 0 0 := by
  obtain ⟨m0, m12, m5, mr⟩ := M
  have r10 : μ 10 = fun _ => 0 := mr 10 (by decide) (by decide) (by decide)
  have r14 : μ 14 = fun _ => 0 := mr 14 (by decide) (by decide) (by decide)
  have r1 : μ 1 = fun _ => 0 := mr 1 (by decide) (by decide) (by decide)
  have r16 : μ 16 = fun _ => 0 := mr 16 (by decide) (by decide) (by decide)
  have r18 : μ 18 = fun _ => 0 := mr 18 (by decide) (by decide) (by decide)
  have r19 : μ 19 = fun _ => 0 := mr 19 (by decide) (by decide) (by decide)
  have nog : ∀ g, ¬ isG 0 0 g := fun g hg => hg.elim (fun q => absurd q (Nat.not_lt_zero g)) (fun q => by omega)
  have wr : ∀ r i, r < 6 → wI0 r i = 0 := fun r i hr => by unfold wI0; rw [if_pos hr]
  have wv : ∀ v i, i ≠ 1 → i ≠ 6 → wI0 (6 + v) i = 0 := fun v i h1 h6 => by unfold wI0; rw [if_neg (by omega), if_neg h1, if_neg h6]
  have w6 : ∀ v, wI0 (6 + v) 6 = -1 := fun v => by unfold wI0; rw [if_neg (by omega), if_neg (by decide), if_pos rfl]
  refine ⟨⟨⟨rfl, rfl, rfl, rfl, hw, hh, by decide, by decide, rfl, fun g hg => absurd hg (nog g)⟩, fun g hg => absurd hg (nog g)⟩, ⟨fun t ht => absurd ht (Nat.not_lt_zero t), btw_sd⟩, ⟨⟨rfl, by decide, fun i hi => absurd hi (Nat.not_lt_zero i)⟩, fun z hz => absurd hz (Nat.not_lt_zero z), fun c hc => wr 1 c (by decide), rfl, rfl, fun t ht => wr 4 t (by decide)⟩, rfl, ?_, ⟨by rw [m0]; rfl, fun v hv => absurd hv (Nat.not_lt_zero v)⟩, fun _ => ⟨fun c hc => by rw [r16, wr 2 c (by decide)], fun d hd => ⟨by rw [r18, wr 3 _ (by decide)], by rw [r19, wr 4 _ (by decide)]⟩⟩, by rw [m0]; rfl, rfl, by decide, fun t ht => Or.inl rfl, fun t ht => m5 t ht, fun v hv => absurd hv (Nat.not_lt_zero v), fun v h1 h2 => ⟨⟨wv v 4 (by decide) (by decide), wv v 5 (by decide) (by decide), w6 v, wv v 8 (by decide) (by decide), wv v 9 (by decide) (by decide)⟩, by rw [r10], m12 v h2, by rw [r14]⟩⟩
  unfold CH
  rw [m0, r1]
  exact ⟨rfl, rfl, rfl, rfl, rfl, rfl, rfl, fun k hk => rfl, fun t ht => absurd ht (Nat.not_lt_zero t), fun d hd => absurd hd (Nat.not_lt_zero d)⟩
end RE0
