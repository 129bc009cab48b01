/-! THE WALK: who came was due; when all that are due have gone, nothing changes any more -/
def LE1 (w : Nat → Nat → Int32) (tl : Nat) : Prop := ∀ v, v < tl → ¬ w (6 + v) 4 = 0 → w (6 + v) 0 ≤ w 0 1
def LT1 (w : Nat → Nat → Int32) (tl : Nat) : Prop := ∀ v, v < tl → ¬ w (6 + v) 4 = 0 → w (6 + v) 0 < w 0 1
def QU (w : Nat → Nat → Int32) (tl nw : Nat) : Prop := ∀ v, v < tl → w (6 + v) 4 = 2 ∨ (w (6 + v) 4 = 0 ∧ ¬ w (6 + v) 0 < nI nw)
section DUE
variable {h w w' wt : Nat → Nat → Int32} {n nt nd wd ht tl i u v s nw : Nat} {x : Int32}
theorem goB_o (hu : u ≠ v) : goB h w v wd ht tl (6 + u) = w (6 + u) := by
  unfold goB
  split
  · rfl
  split
  · split
    · exact outW_r (by omega) (by omega) (by omega) (by omega)
    · unfold lkW px_if
      split
      · rw [lkD_r (by omega) (by omega), lk1_o (by omega)]
      · exact lk1_o (by omega)
  · unfold stI
    split
    · rfl
    split
    · exact stW_v (by omega) (by omega)
    · rfl
theorem goA_o (hu : u ≠ v) : goA h w v nt nd (6 + u) = w (6 + u) := by
  unfold goA
  split
  · exact trn_o hu
  · rfl
theorem psI_o (hu : u ≠ i) : psI h wd ht nt nd tl i w (6 + u) = w (6 + u) := by
  unfold psI
  split
  · unfold goW
    rw [goB_o hu, goA_o hu]
  split
  · split
    · exact inW_r (by omega) (by omega) (by omega) (by omega)
    · rfl
  · rfl
theorem LE1.ps (L : LE1 w tl) : LE1 (psI h wd ht nt nd tl i w) tl := by
  intro v hv q
  have kp := kpt.ps (h := h) (wd := wd) (ht := ht) (nt := nt) (nd := nd) (tl := tl) (v := i) (w := w)
  rw [kp.2.1, kp.2.2.2 v 0 (by decide)]
  by_cases e : v = i
  · subst e
    by_cases q0 : w (6 + v) 4 = 0
    · unfold psI at q
      rw [if_neg (by rw [q0]; decide)] at q
      by_cases c : w (6 + v) 4 = 0 ∧ w (6 + v) 0 ≤ w 0 1 ∧ w 0 4 = 0
      · exact c.2.1
      · rw [if_neg c] at q
        exact absurd q0 q
    · exact L v hv q0
  · rw [psI_o e] at q
    exact L v hv q
theorem LE1.ss (L : LE1 w tl) : LE1 (ssI i w) tl := by
  unfold ssI
  split
  · intro v hv q
    rw [up2_r (by omega)] at q ⊢
    rw [up2_n (by omega)]
    exact L v hv q
  · exact L
theorem lt_n1 (hs : s < 2000) (q : x ≤ nI s) : x < nI s + 1 := by
  rw [nI_1]
  rw [Int32.lt_iff_toInt_lt, nI_toInt (by omega)]
  rw [Int32.le_iff_toInt_le, nI_toInt (by omega)] at q
  omega
theorem LT1.le (L : LT1 w tl) : LE1 w tl := fun v hv q => by
  have := L v hv q
  rw [Int32.lt_iff_toInt_lt] at this
  rw [Int32.le_iff_toInt_le]
  omega
theorem LT1.ps (L : LT1 w tl) (hn : w 0 1 = nI s) (hs : s < 2000) : LT1 (psW h wd ht nt nd tl w) tl := by
  have p1 : ∀ k, LE1 (px_it (psI h wd ht nt nd tl) k w) tl := by
    intro k
    induction k with
    | zero => exact L.le
    | succ k ih => rw [it_s]; exact ih.ps
  have p2 : ∀ k, LE1 (px_it ssI k (px_it (psI h wd ht nt nd tl) tl w)) tl := by
    intro k
    induction k with
    | zero => exact p1 tl
    | succ k ih => rw [it_s]; exact ih.ss
  have kk := psW_k (h := h) (wd := wd) (ht := ht) (nt := nt) (nd := nd) (tl := tl) (w := w)
  have e1 := kk.1
  intro v hv q
  have L2 := p2 tl v hv
  unfold psW at q e1 ⊢
  rw [up2_r (by omega)] at q ⊢
  rw [up2_s] at e1 ⊢
  have L3 := L2 q
  have e2 : px_it ssI tl (px_it (psI h wd ht nt nd tl) tl w) 0 1 = w 0 1 := (Int32.add_left_inj (c := 1)).mp e1
  rw [e2, hn] at L3 ⊢
  exact lt_n1 hs L3
theorem LT1.bk : LT1 (gbW w tl) tl := fun v hv q => absurd (gbW_v hv).1 q
theorem QU.ps (Q : QU w tl nw) (hn : w 0 1 = nI s) (hs : s < nw) (hnw : nw ≤ 400) : psW h wd ht nt nd tl w = up2 w 0 1 (nI (s + 1)) := by
  have p1 : ∀ k, k ≤ tl → px_it (psI h wd ht nt nd tl) k w = w := by
    intro k
    induction k with
    | zero => intro _; rfl
    | succ k ih =>
      intro hk
      rw [it_s, ih (by omega)]
      unfold psI
      rcases Q k (by omega) with q | ⟨q, q2⟩
      · rw [if_neg (by rw [q]; decide), if_neg (fun c => by rw [q] at c; exact absurd c.1 (by decide))]
      · rw [if_neg (by rw [q]; decide), if_neg (fun c => q2 ?_)]
        have c1 := c.2.1
        rw [hn, Int32.le_iff_toInt_le, nI_toInt (by omega)] at c1
        rw [Int32.lt_iff_toInt_lt, nI_toInt (by omega)]
        omega
  have p2 : ∀ k, k ≤ tl → px_it ssI k w = w := by
    intro k
    induction k with
    | zero => intro _; rfl
    | succ k ih =>
      intro hk
      rw [it_s, ih (by omega)]
      unfold ssI
      rw [if_neg (fun c => ?_)]
      rcases Q k (by omega) with q | ⟨q, q2⟩
      · rw [q] at c
        exact absurd c (by decide)
      · rw [q] at c
        exact absurd c (by decide)
  unfold psW
  rw [p1 tl (Nat.le_refl tl), p2 tl (Nat.le_refl tl), hn, nI_1]
theorem QU.rn (Q : QU w tl nw) (hn : w 0 1 = nI s) (hnw : nw ≤ 400) : ∀ j, s + j ≤ nw → rnW h wd ht nt nd tl j w 4 = w 4 ∧ QU (rnW h wd ht nt nd tl j w) tl nw ∧ rnW h wd ht nt nd tl j w 0 1 = nI (s + j)
  | 0, _ => ⟨rfl, Q, hn⟩
  | j + 1, hj => by
    obtain ⟨a, b, c⟩ := QU.rn Q hn hnw j (by omega)
    have e : rnW h wd ht nt nd tl (j + 1) w = up2 (rnW h wd ht nt nd tl j w) 0 1 (nI (s + j + 1)) := b.ps c (by omega) hnw
    rw [e]
    refine ⟨by rw [up2_r (by decide)]; exact a, fun v hv => ?_, up2_s⟩
    rw [up2_r (by omega)]
    exact b v hv
theorem cn_mono {p q : Nat → Prop} : ∀ n, (∀ u, u < n → p u → q u) → cn p n ≤ cn q n
  | 0, _ => Nat.le_refl _
  | n + 1, H => by
    show cn p n + px_if (p n) 1 0 ≤ cn q n + px_if (q n) 1 0
    have h1 := cn_mono n (fun u hu => H u (by omega))
    by_cases c : p n
    · rw [px_if_t c, px_if_t (H n (by omega) c)]
      omega
    · rw [px_if_f c]
      omega
theorem cn_full {p q : Nat → Prop} : ∀ n, (∀ u, u < n → p u → q u) → cn q n ≤ cn p n → ∀ u, u < n → q u → p u
  | 0, _, _ => fun u hu => absurd hu (Nat.not_lt_zero u)
  | n + 1, H, L => by
    intro u hu qu
    change cn q n + px_if (q n) 1 0 ≤ cn p n + px_if (p n) 1 0 at L
    have h1 := cn_mono n (fun u hu => H u (by omega))
    by_cases c : q n
    · rw [px_if_t c] at L
      by_cases d : p n
      · rw [px_if_t d] at L
        by_cases e : u = n
        · rw [e]; exact d
        · exact cn_full n (fun u hu => H u (by omega)) (by omega) u (by omega) qu
      · rw [px_if_f d] at L
        omega
    · rw [px_if_f c, px_if_f (fun d => c (H n (by omega) d))] at L
      by_cases e : u = n
      · rw [e] at qu; exact absurd qu c
      · exact cn_full n (fun u hu => H u (by omega)) (by omega) u (by omega) qu
theorem dueC_cn {e : Int32} : ∀ k, dueC w e k = nI (cn (fun u => w (6 + u) 0 < e) k)
  | 0 => rfl
  | k + 1 => by
    show (if w (6 + k) 0 < e then dueC w e k + 1 else dueC w e k) = nI (cn (fun u => w (6 + u) 0 < e) k + px_if (w (6 + k) 0 < e) 1 0)
    rw [dueC_cn k]
    by_cases q : w (6 + k) 0 < e
    · rw [if_pos q, px_if_t q, nI_1]
    · rw [if_neg q, px_if_f q]
      rfl
theorem rnW_s : ∀ f w, rnW h wd ht nt nd tl f (psW h wd ht nt nd tl w) = rnW h wd ht nt nd tl (f + 1) w
  | 0, _ => rfl
  | f + 1, w => by
    show psW h wd ht nt nd tl (rnW h wd ht nt nd tl f (psW h wd ht nt nd tl w)) = _
    rw [rnW_s f w]
    rfl
theorem sqL_rn (B : HG h wd ht nt nd n) (HI : hIN h nt) (hnw : nw ≤ 400) {sc : Nat → Int32} : ∀ f w s, s + f = nw → w 0 1 = nI s → INV w wd ht nt nd tl → LT1 w tl → (∀ v, v < tl → w (6 + v) 0 = sc v) → sqL h wd ht nt nd tl (nI (cn (fun u => sc u < nI nw) tl)) f w 4 = rnW h wd ht nt nd tl f w 4
  | 0, _, _, _, _, _, _, _ => rfl
  | f + 1, w, s, hs, hn, I, L, hc => by
    have htl := I.1.2.1
    have kk := psW_k (h := h) (wd := wd) (ht := ht) (nt := nt) (nd := nd) (tl := tl) (w := w)
    unfold sqL
    by_cases q : w 0 3 < nI (cn (fun u => sc u < nI nw) tl)
    · rw [if_pos q, sqL_rn B HI hnw f _ (s + 1) (by omega) (by rw [kk.1, hn, nI_1]) (psW_I I B HI) (L.ps hn (by omega)) (fun v hv => by rw [kk.2.2 v 0 (by decide)]; exact hc v hv), rnW_s]
    · rw [if_neg q]
      rw [I.2.2.2.2.1] at q
      have l1 := cn_le (p := fun u => w (6 + u) 4 = 2) tl
      have l2 := cn_le (p := fun u => sc u < nI nw) tl
      rw [Int32.lt_iff_toInt_lt, nI_toInt (by omega), nI_toInt (by omega)] at q
      have due : ∀ v, v < tl → ¬ w (6 + v) 4 = 0 → sc v < nI nw := fun v hv c => by
        have := L v hv c
        rw [hc v hv, hn, Int32.lt_iff_toInt_lt, nI_toInt (by omega)] at this
        rw [Int32.lt_iff_toInt_lt, nI_toInt (by omega)]
        omega
      have full := cn_full (p := fun u => w (6 + u) 4 = 2) (q := fun u => sc u < nI nw) tl (fun u hu c => due u hu (by rw [c]; decide)) (by omega)
      have Q : QU w tl nw := fun v hv => by
        rcases (I.2.1 v hv).2.2.1 with c | c | c
        · refine Or.inr ⟨c, fun d => ?_⟩
          rw [hc v hv] at d
          have := full v hv d
          rw [c] at this
          exact absurd this (by decide)
        · have := full v hv (due v hv (by rw [c]; decide))
          rw [c] at this
          exact absurd this (by decide)
        · exact Or.inl c
      exact (Q.rn hn hnw (f + 1) (by omega)).1.symm
theorem sqV_rn (B : HG h wd ht nt nd n) (HI : hIN h nt) (I : INV w wd ht nt nd tl) (hn : w 0 1 = nI nw) (hnw : nw ≤ 400) {ta : Nat → Int32} : sqV h w wt ta wd ht nt nd tl nw = sqS ta (rnW h wd ht nt nd tl nw (gbW (cpW w wt tl) tl) 4) nt := by
  unfold sqV
  rw [dueC_cn, hn, sqL_rn (sc := fun v => w (6 + v) 0) B HI hnw nw _ 0 (by omega) gbW_z.1 (I.cp.bk B.1) LT1.bk (fun v hv => by rw [(gbW_v hv).2.2.2.2.2.2 0 (by decide), cpW_v hv])]
end DUE
/-! THE WALK: rows that are not read -/
def AG (tl : Nat) (w w' : Nat → Nat → Int32) : Prop := (∀ j, j ≤ 4 → w 0 j = w' 0 j) ∧ (∀ r, 1 ≤ r → r ≤ 4 → w r = w' r) ∧ ∀ v, v < tl → w (6 + v) = w' (6 + v)
section AGR
variable {h w w' wt wt' : Nat → Nat → Int32} {n nt nd wd ht tl i c g t : Nat} {x x' : Int32}
theorem AG.up (a : AG tl w w') {r j : Nat} (e : x = x') : AG tl (up2 w r j x) (up2 w' r j x') := by
  subst e
  refine ⟨fun k hk => ?_, fun k h1 h2 => ?_, fun v hv => ?_⟩
  · unfold up2
    rw [a.1 k hk]
  · funext m
    unfold up2
    rw [a.2.1 k h1 h2]
  · funext m
    unfold up2
    rw [a.2.2 v hv]
theorem AG.ur (a : AG tl w w') {r : Nat} {f : Nat → Int32} : AG tl (upr w r f) (upr w' r f) := by
  refine ⟨fun k hk => ?_, fun k h1 h2 => ?_, fun v hv => ?_⟩
  · unfold upr
    split
    · rfl
    · exact a.1 k hk
  · unfold upr
    rw [a.2.1 k h1 h2]
  · unfold upr
    rw [a.2.2 v hv]
theorem AG.v (a : AG tl w w') {r j : Nat} (hr : (r = 0 ∧ j ≤ 4) ∨ (1 ≤ r ∧ r ≤ 4) ∨ (6 ≤ r ∧ r < 6 + tl)) : w r j = w' r j := by
  rcases hr with ⟨q, q2⟩ | q | q
  · rw [q]
    exact a.1 j q2
  · rw [a.2.1 r q.1 q.2]
  · obtain ⟨v, rfl⟩ : ∃ v, r = 6 + v := ⟨r - 6, by omega⟩
    rw [a.2.2 v (by omega)]
theorem AG.ite {p : Prop} [Decidable p] {a a' b b' : Nat → Nat → Int32} (h1 : AG tl a a') (h2 : AG tl b b') : AG tl (if p then a else b) (if p then a' else b') := by
  by_cases q : p
  · rw [if_pos q, if_pos q]
    exact h1
  · rw [if_neg q, if_neg q]
    exact h2
theorem AG.pif {p p' : Prop} {a a' b b' : Nat → Nat → Int32} (e : p ↔ p') (h1 : AG tl a a') (h2 : AG tl b b') : AG tl (px_if p a b) (px_if p' a' b') := by
  by_cases q : p
  · rw [px_if_t q, px_if_t (e.mp q)]
    exact h1
  · rw [px_if_f q, px_if_f (fun c => q (e.mpr c))]
    exact h2
theorem AG.tt (a : AG tl w w') (e : x = x') : AG tl (trn w i x) (trn w' i x') := (a.up e).up rfl
theorem AG.xin (a : AG tl w w') : AG tl (inW w i c g) (inW w' i c g) := by
  have a1 := a.up (r := 6 + i) (j := 4) (x := 1) (x' := 1) rfl
  have a2 := a1.up (r := 6 + i) (j := 5) (x := nI c) (x' := nI c) rfl
  have a3 := a2.up (r := 1) (j := c) (congrArg (· + 1) (a2.v (r := 1) (j := c) (Or.inr (Or.inl (by decide)))))
  have a4 := a3.up (r := 0) (j := 2) (congrArg (· + 1) (a3.v (r := 0) (j := 2) (Or.inl (by decide))))
  exact a4.up (r := 3) (j := g) (congrArg (· + 1) (a4.v (r := 3) (j := g) (Or.inr (Or.inl (by decide)))))
theorem AG.xst (a : AG tl w w') : AG tl (stW w i c g) (stW w' i c g) := by
  have a1 := a.up (r := 1) (j := c) (congrArg (· - 1) (a.v (r := 1) (j := c) (Or.inr (Or.inl (by decide)))))
  have a2 := a1.up (r := 1) (j := g) (congrArg (· + 1) (a1.v (r := 1) (j := g) (Or.inr (Or.inl (by decide)))))
  exact a2.up rfl
theorem AG.xout (a : AG tl w w') : AG tl (outW w i c g) (outW w' i c g) := by
  have a1 := a.up (r := 4) (j := g) (congrArg (· + 1) (a.v (r := 4) (j := g) (Or.inr (Or.inl (by decide)))))
  have a2 := a1.up (r := 1) (j := c) (congrArg (· - 1) (a1.v (r := 1) (j := c) (Or.inr (Or.inl (by decide)))))
  have a3 := a2.up (r := 0) (j := 2) (congrArg (· - 1) (a2.v (r := 0) (j := 2) (Or.inl (by decide))))
  have a4 := a3.up (r := 0) (j := 3) (congrArg (· + 1) (a3.v (r := 0) (j := 3) (Or.inl (by decide))))
  exact (a4.up (r := 6 + i) (j := 4) (x := 2) (x' := 2) rfl).tt rfl
theorem AG.xlk (a : AG tl w w') (hi : i < tl) : AG tl (lk1 w i) (lk1 w' i) := a.up (by rw [a.2.2 i hi])
theorem AG.xld (a : AG tl w w') (hi : i < tl) : AG tl (lkD w i t) (lkD w' i t) := by
  have a1 := a.up (r := 4) (j := t) (congrArg (· + 1) (a.v (r := 4) (j := t) (Or.inr (Or.inl (by decide)))))
  have a2 := a1.up (r := 6 + i) (j := 8) (congrArg (· ||| ((1 : Int32) <<< (nI t &&& 31))) (a1.v (r := 6 + i) (j := 8) (by omega)))
  have a3 := a2.up (r := 6 + i) (j := 9) (congrArg (· + 1) (a2.v (r := 6 + i) (j := 9) (by omega)))
  exact a3.tt rfl
theorem AG.dn (a : AG tl w w') (hi : i < tl) : doneG h w i t tl ↔ doneG h w' i t tl := by
  unfold doneG badG
  rw [a.2.2 i hi]
  constructor
  · rintro (q | q)
    · exact Or.inl q
    · refine Or.inr (fun j hj => ?_)
      have := q j hj
      rw [a.2.2 j hj] at this
      exact this
  · rintro (q | q)
    · exact Or.inl q
    · refine Or.inr (fun j hj => ?_)
      rw [a.2.2 j hj]
      exact q j hj
theorem AG.xlw (a : AG tl w w') (hi : i < tl) : AG tl (lkW h w i t tl) (lkW h w' i t tl) := by
  have a1 := a.xlk hi
  unfold lkW
  refine AG.pif ?_ (a1.xld hi) a1
  rw [a1.2.2 i hi]
  exact and_congr Iff.rfl (a1.dn hi)
theorem AG.ch (a : AG tl w w') (hi : i < tl) : chV h w i c nt nd = chV h w' i c nt nd := by
  have e := a.2.2 i hi
  have e4 := a.1 4 (by decide)
  have s : ∀ t, ctS h w i c t = ctS h w' i c t := by
    intro t
    induction t with
    | zero => rfl
    | succ t ih =>
      simp only [ctS]
      rw [ih, e]
  unfold chV chT luckV
  rw [s, e, e4]
theorem AG.xga (a : AG tl w w') (hi : i < tl) : AG tl (goA h w i nt nd) (goA h w' i nt nd) := by
  have e := a.2.2 i hi
  unfold goA dG
  rw [e]
  exact AG.ite (a.tt (a.ch hi)) a
theorem AG.xsi (a : AG tl w w') : AG tl (stI h w i c g wd ht) (stI h w' i c g wd ht) := by
  unfold stI
  rw [a.2.1 1 (by decide) (by decide)]
  exact AG.ite a (AG.ite a.xst a)
theorem AG.xgb (a : AG tl w w') (hi : i < tl) : AG tl (goB h w i wd ht tl) (goB h w' i wd ht tl) := by
  have e := a.2.2 i hi
  unfold goB
  rw [e]
  exact AG.ite a (AG.ite (AG.ite a.xout (a.xlw hi)) a.xsi)
theorem AG.xpi (a : AG tl w w') (hi : i < tl) : AG tl (psI h wd ht nt nd tl i w) (psI h wd ht nt nd tl i w') := by
  have e := a.2.2 i hi
  unfold psI
  rw [e, a.1 1 (by decide), a.1 4 (by decide), a.2.1 1 (by decide) (by decide)]
  exact AG.ite ((a.xga hi).xgb hi) (AG.ite (AG.ite a.xin a) a)
theorem AG.xsa (a : AG tl w w') (hi : i < tl) : AG tl (ssI i w) (ssI i w') := by
  unfold ssI
  rw [a.2.2 i hi]
  exact AG.ite (a.up (by rw [a.2.1 2 (by decide) (by decide)])) a
theorem AG.xps (a : AG tl w w') : AG tl (psW h wd ht nt nd tl w) (psW h wd ht nt nd tl w') := by
  have p1 : ∀ k, k ≤ tl → AG tl (px_it (psI h wd ht nt nd tl) k w) (px_it (psI h wd ht nt nd tl) k w') := by
    intro k
    induction k with
    | zero => intro _; exact a
    | succ k ih => intro hk; rw [it_s, it_s]; exact (ih (by omega)).xpi (by omega)
  have p2 : ∀ k, k ≤ tl → AG tl (px_it ssI k (px_it (psI h wd ht nt nd tl) tl w)) (px_it ssI k (px_it (psI h wd ht nt nd tl) tl w')) := by
    intro k
    induction k with
    | zero => intro _; exact p1 tl (Nat.le_refl tl)
    | succ k ih => intro hk; rw [it_s, it_s]; exact (ih (by omega)).xsa (by omega)
  have a2 := p2 tl (Nat.le_refl tl)
  unfold psW
  exact a2.up (by rw [a2.1 1 (by decide)])
theorem AG.xsq {due : Int32} : ∀ f w w', AG tl w w' → AG tl (sqL h wd ht nt nd tl due f w) (sqL h wd ht nt nd tl due f w')
  | 0, _, _, a => a
  | f + 1, w, w', a => by
    unfold sqL
    rw [a.1 3 (by decide)]
    exact AG.ite (AG.xsq f _ _ a.xps) a
theorem AG.xcp : AG tl (cpW w wt tl) (cpW w wt' tl) := by
  obtain ⟨a0, a1, a2, a3, a4⟩ := cpW_0 (w := w) (wt := wt) (tl := tl)
  obtain ⟨b0, b1, b2, b3, b4⟩ := cpW_0 (w := w) (wt := wt') (tl := tl)
  refine ⟨fun j hj => ?_, fun r h1 h2 => by rw [cpW_r h1 h2, cpW_r h1 h2], fun v hv => by rw [cpW_v hv, cpW_v hv]⟩
  obtain rfl | rfl | rfl | rfl | rfl : j = 0 ∨ j = 1 ∨ j = 2 ∨ j = 3 ∨ j = 4 := by omega
  · rw [a0, b0]
  · rw [a1, b1]
  · rw [a2, b2]
  · rw [a3, b3]
  · rw [a4, b4]
theorem AG.xbk (a : AG tl w w') : AG tl (gbW w tl) (gbW w' tl) := by
  have p1 : ∀ k, AG tl (px_it gbI k w) (px_it gbI k w') := by
    intro k
    induction k with
    | zero => exact a
    | succ k ih =>
      rw [it_s, it_s]
      exact ((((ih.up rfl).up rfl).tt rfl).up rfl).up rfl
  exact ((((((p1 tl).ur.ur.ur.ur).up rfl).up rfl).up rfl))
theorem sqV_wt {ta : Nat → Int32} {nw : Nat} : sqV h w wt ta wd ht nt nd tl nw = sqV h w wt' ta wd ht nt nd tl nw := by
  unfold sqV
  rw [(AG.xsq nw _ _ (AG.xcp (wt := wt) (wt' := wt')).xbk).2.1 4 (by decide) (by decide)]
end AGR
