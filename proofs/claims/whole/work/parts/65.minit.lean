/-! THE MODEL: its constructor -/
def clp (x a b : Int32) : Int32 := if x < a then a else if b < x then b else x
theorem clp_btw {x a b : Int32} (hab : a ≤ b) : clp x a b = btw x a b := by
  unfold clp btw
  have h := Int32.le_iff_toInt_le.mp hab
  by_cases h1 : x < a
  · have l1 := Int32.lt_iff_toInt_lt.mp h1
    rw [if_pos h1]
    have hb : x < b := Int32.lt_iff_toInt_lt.mpr (by omega)
    rw [if_pos hb, if_neg (fun q => by have := Int32.lt_iff_toInt_lt.mp q; omega)]
  · rw [if_neg h1]
    have l1 : a.toInt ≤ x.toInt := Int32.le_iff_toInt_le.mp (k2_le h1)
    by_cases h2 : b < x
    · have l2 := Int32.lt_iff_toInt_lt.mp h2
      have hnb : ¬ x < b := fun q => by have := Int32.lt_iff_toInt_lt.mp q; omega
      rw [if_pos h2, if_neg hnb]
      by_cases h3 : a < b
      · rw [if_pos h3]
      · rw [if_neg h3]
        have l3 := Int32.le_iff_toInt_le.mp (k2_le h3)
        exact Int32.toInt_inj.mp (by omega)
    · rw [if_neg h2]
      have l2 : x.toInt ≤ b.toInt := Int32.le_iff_toInt_le.mp (k2_le h2)
      by_cases h3 : x < b
      · rw [if_pos h3]
        by_cases h4 : a < x
        · rw [if_pos h4]
        · rw [if_neg h4]
          have l4 := Int32.le_iff_toInt_le.mp (k2_le h4)
          exact Int32.toInt_inj.mp (by omega)
      · have l3 := Int32.le_iff_toInt_le.mp (k2_le h3)
        have e : x = b := Int32.toInt_inj.mp (by omega)
        rw [if_neg h3, e]
        by_cases h4 : a < b
        · rw [if_pos h4]
        · rw [if_neg h4]
          have l4 := Int32.le_iff_toInt_le.mp (k2_le h4)
          exact Int32.toInt_inj.mp (by omega)
/-- the model at its start -/
def MI (μ : Nat → Nat → Int32) (W H sd : Int32) : Prop := (μ 0 = fun j => match j with | 1 => W | 2 => H | 3 => sd | 6 => 16 | 7 => 6 | _ => 0) ∧ (∀ i, i < 16 → μ 12 i = -1) ∧ (∀ i, i < 6 → μ 5 i = -1) ∧ ∀ r, r ≠ 0 → r ≠ 5 → r ≠ 12 → μ r = fun _ => 0
def mI0 (W H sd : Int32) : Nat → Nat → Int32 := fun r => if r = 0 then (fun j => match j with | 1 => W | 2 => H | 3 => sd | 6 => 16 | 7 => 6 | _ => 0) else fun _ => 0
