/-! THE WALK'S INVARIANT -/
def INV (w : Nat → Nat → Int32) (wd ht nt nd tl : Nat) : Prop := WF w wd ht nt nd tl ∧ (∀ z, z < tl → VI w z) ∧ CRw w ht tl ∧ w 0 2 = nI (cn (fun u => w (6 + u) 4 = 1) tl) ∧ w 0 3 = nI (cn (fun u => w (6 + u) 4 = 2) tl) ∧ ∀ t, t < 6 → w 4 t = sno (fun u => w (6 + u) 8) (nI t) tl
theorem mny_or : ∀ b, b < 64 → ∀ t, t < 6 → px_sb (nI b) (nI t) = 0 → mny (nI (b ||| 2 ^ t)) 6 = mny (nI b) 6 + 1 := by decide +kernel
section INS
variable {h w w' : Nat → Nat → Int32} {n nt nd wd ht c v tl o g t : Nat} {x : Int32}
theorem cn_up {p q : Nat → Prop} (hp : ¬ p v) (hq : q v) (he : ∀ u, u ≠ v → (p u ↔ q u)) : ∀ n, v < n → cn q n = cn p n + 1
  | 0, h => absurd h (Nat.not_lt_zero _)
  | n + 1, h => by
    show cn q n + px_if (q n) 1 0 = cn p n + px_if (p n) 1 0 + 1
    by_cases e : n = v
    · rw [e, px_if_t hq, px_if_f hp, cn_cong v (fun u hu => he u (by omega))]
    · rw [cn_up hp hq he n (by omega), show p n = q n from propext (he n e)]
      omega
theorem cn_pos {p : Nat → Prop} (hp : p v) : ∀ n, v < n → 0 < cn p n
  | 0, h => absurd h (Nat.not_lt_zero _)
  | n + 1, h => by
    show 0 < cn p n + px_if (p n) 1 0
    by_cases e : n = v
    · rw [e, px_if_t hp]; omega
    · have := cn_pos hp n (by omega)
      omega
theorem sno_cong {s s' : Nat → Int32} : ∀ n, (∀ u, u < n → px_sb (s' u) x = px_sb (s u) x) → sno s' x n = sno s x n
  | 0, _ => rfl
  | n + 1, H => by
    show sno s' x n + px_sb (s' n) x = sno s x n + px_sb (s n) x
    rw [sno_cong n (fun u hu => H u (by omega)), H n (by omega)]
theorem sno_up {s s' : Nat → Int32} (hv : px_sb (s v) x = 0) (hv' : px_sb (s' v) x = 1) (he : ∀ u, u ≠ v → s' u = s u) : ∀ n, v < n → sno s' x n = sno s x n + 1
  | 0, h => absurd h (Nat.not_lt_zero _)
  | n + 1, h => by
    show sno s' x n + px_sb (s' n) x = sno s x n + px_sb (s n) x + 1
    by_cases e : n = v
    · rw [e, hv, hv', sno_cong v (fun u hu => by rw [he u (by omega)]), Int32.add_zero]
    · rw [sno_up hv hv' he n (by omega), he n e, Int32.add_assoc, Int32.add_comm 1, Int32.add_assoc]
theorem KS.cong (k : KS w v) (h2 : ∀ u, w' (6 + u) 2 = w (6 + u) 2) (h3 : ∀ u, w' (6 + u) 3 = w (6 + u) 3) : KS w' v := by
  obtain ⟨m, m1, m2, m3, m4⟩ := k
  refine ⟨m, m1, by rw [h3]; exact m2, by rw [h2]; exact m3, fun q => ?_⟩
  rw [h2] at q
  rw [h2, h2]
  exact ⟨(m4 q).1, fun j hj => by rw [h2]; exact (m4 q).2 j hj⟩
theorem VI.cong (V : VI w v) (h2 : ∀ u, w' (6 + u) 2 = w (6 + u) 2) (h3 : ∀ u, w' (6 + u) 3 = w (6 + u) 3) (hr : w' (6 + v) = w (6 + v)) : VI w' v := by
  obtain ⟨v1, v2, v3⟩ := V
  have k2 := v2.cong h2 h3
  unfold VI
  rw [hr]
  exact ⟨v1, k2, v3⟩
/-- a visitor turns -/
theorem INV.turn (I : INV w wd ht nt nd tl) (hF : WF (trn w v x) wd ht nt nd tl) (hv : v < tl) (h1 : w (6 + v) 4 = 1) (hx : ∀ t, t < 6 → x = nI t → px_sb (w (6 + v) 8) (nI t) = 0) : INV (trn w v x) wd ht nt nd tl := by
  obtain ⟨i1, i2, i3, i4, i5, i6⟩ := I
  have rows : ∀ z j, j ≠ 6 → j ≠ 7 → trn w v x (6 + z) j = w (6 + z) j := fun z j h6 h7 => by
    by_cases q : z = v
    · rw [q, trn_j h6 h7]
    · rw [trn_o q]
  refine ⟨hF, fun z hz => ?_, fun a ha => ?_, ?_, ?_, fun t ht => ?_⟩
  · by_cases q : z = v
    · obtain ⟨⟨gr, g1, g2⟩, v2, v3, v4, v5, v6, v7⟩ := i2 v hv
      subst q
      have k2 := v2.cong (w' := trn w z x) (fun u => rows u 2 (by decide) (by decide)) (fun u => rows u 3 (by decide) (by decide))
      unfold VI
      rw [rows z 2 (by decide) (by decide), rows z 4 (by decide) (by decide), rows z 8 (by decide) (by decide), rows z 9 (by decide) (by decide), trn_6]
      exact ⟨⟨gr, g1, g2⟩, k2, v3, v4, v5, hx, fun q => absurd h1 q⟩
    · exact (i2 z hz).cong (fun u => rows u 2 (by decide) (by decide)) (fun u => rows u 3 (by decide) (by decide)) (trn_o q)
  · rw [trn_r (by omega), i3 a ha]
    congr 1
    exact cn_cong tl (fun u hu => by rw [rows u 4 (by decide) (by decide), rows u 5 (by decide) (by decide)])
  · rw [trn_0, i4]
    congr 1
    exact cn_cong tl (fun u hu => by rw [rows u 4 (by decide) (by decide)])
  · rw [trn_0, i5]
    congr 1
    exact cn_cong tl (fun u hu => by rw [rows u 4 (by decide) (by decide)])
  · rw [trn_r (by omega), i6 t ht]
    exact sno_cong tl (fun u hu => by rw [rows u 8 (by decide) (by decide)])
/-- a visitor steps -/
theorem INV.step (I : INV w wd ht nt nd tl) (hF : WF (stW w v c o) wd ht nt nd tl) (hv : v < tl) (h1 : w (6 + v) 4 = 1) (hc : w (6 + v) 5 = nI c) (hc2 : c < 144) (ho2 : o < 144) (hco : c ≠ o) (hht : ht ≤ 12) : INV (stW w v c o) wd ht nt nd tl := by
  obtain ⟨i1, i2, i3, i4, i5, i6⟩ := I
  have rows : ∀ z j, j ≠ 5 → stW w v c o (6 + z) j = w (6 + z) j := fun z j h5 => by
    by_cases q : z = v
    · rw [q, stW_j h5]
    · rw [stW_v (by omega) (by omega)]
  have oth : ∀ z, z ≠ v → stW w v c o (6 + z) = w (6 + z) := fun z q => stW_v (by omega) (by omega)
  refine ⟨hF, fun z hz => ?_, fun a ha => ?_, ?_, ?_, fun t ht => ?_⟩
  · by_cases q : z = v
    · obtain ⟨v1, v2, v3⟩ := i2 z hz
      have k2 := v2.cong (w' := stW w v c o) (fun u => rows u 2 (by decide)) (fun u => rows u 3 (by decide))
      unfold VI
      rw [rows z 2 (by decide), rows z 4 (by decide), rows z 6 (by decide), rows z 8 (by decide), rows z 9 (by decide)]
      exact ⟨v1, k2, v3⟩
    · exact (i2 z hz).cong (fun u => rows u 2 (by decide)) (fun u => rows u 3 (by decide)) (oth z q)
  · have others : ∀ u, u ≠ v → ((w (6 + u) 4 = 1 ∧ w (6 + u) 5 = nI a) ↔ (stW w v c o (6 + u) 4 = 1 ∧ stW w v c o (6 + u) 5 = nI a)) := fun u q => by rw [oth u q]
    have e1 : stW w v c o 1 a = up2 (up2 w 1 c (w 1 c - 1)) 1 o (up2 w 1 c (w 1 c - 1) 1 o + 1) 1 a := by
      simp only [stW]
      rw [up2_r (by omega)]
    rw [e1]
    by_cases qo : a = o
    · subst qo
      rw [up2_s, up2_n (Or.inr (Ne.symm hco)), i3 a ha]
      have := cn_up (v := v) (p := fun u => w (6 + u) 4 = 1 ∧ w (6 + u) 5 = nI a) (q := fun u => stW w v c a (6 + u) 4 = 1 ∧ stW w v c a (6 + u) 5 = nI a) (fun q => by
        have q2 := q.2
        rw [hc] at q2
        exact hco ((nI_eq (by omega) (by omega)).mp q2)) ⟨by rw [rows v 4 (by decide)]; exact h1, stW_5⟩ others tl hv
      rw [this]
      exact nI_1 _
    · by_cases qc : a = c
      · subst qc
        rw [up2_n (Or.inr qo), up2_s, i3 a ha]
        have := cn_up (v := v) (p := fun u => stW w v a o (6 + u) 4 = 1 ∧ stW w v a o (6 + u) 5 = nI a) (q := fun u => w (6 + u) 4 = 1 ∧ w (6 + u) 5 = nI a) (fun q => by
          have q2 := q.2
          rw [stW_5] at q2
          exact hco ((nI_eq (by omega) (by omega)).mp q2.symm)) ⟨h1, hc⟩ (fun u q => (others u q).symm) tl hv
        rw [this, nI_m1]
      · rw [up2_n (Or.inr qo), up2_n (Or.inr qc), i3 a ha]
        congr 1
        refine cn_cong tl (fun u hu => ?_)
        by_cases q : u = v
        · subst q
          rw [hc, stW_5, rows u 4 (by decide)]
          refine and_congr_right (fun _ => ⟨fun q => absurd ((nI_eq (by omega) (by omega)).mp q).symm qc, fun q => absurd ((nI_eq (by omega) (by omega)).mp q).symm qo⟩)
        · exact others u q
  · rw [stW_v (by decide) (by omega), i4]
    congr 1
    exact cn_cong tl (fun u hu => by rw [rows u 4 (by decide)])
  · rw [stW_v (by decide) (by omega), i5]
    congr 1
    exact cn_cong tl (fun u hu => by rw [rows u 4 (by decide)])
  · rw [stW_v (by decide) (by omega), i6 t ht]
    exact sno_cong tl (fun u hu => by rw [rows u 8 (by decide)])
end INS
