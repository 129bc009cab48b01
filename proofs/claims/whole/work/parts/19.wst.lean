/-! WRITES of the walk's cells -/
def SW (zw zh n : Nat) (w h : Nat → Nat → Int32) (π0 π : px_H) : Prop := RW zw zh n w π ∧ RH zh n h π ∧ zh + 17 ≤ zw ∧ px_off zw 22 π0 π
section WST
variable {zh zw n : Nat} {h w : Nat → Nat → Int32} {π π0 : px_H}
theorem wc_ge {zw zh n : Nat} {w : Nat → Nat → Int32} (i : Nat) : wc zw zh n w (6 + i) = .inr (1, [.int (w (6 + i) 0), .int (w (6 + i) 1), .int (w (6 + i) 2), .int (w (6 + i) 3), .int (w (6 + i) 4), .int (w (6 + i) 5), .int (w (6 + i) 6), .int (w (6 + i) 7), .int (w (6 + i) 8), .int (w (6 + i) 9)]) := by
  rw [Nat.add_comm 6 i]
  rfl
/-- cells of rows that are the same are the same -/
theorem wc_row {w w' : Nat → Nat → Int32} {j : Nat} (h0 : j = 0 → w' 0 = w 0) (h1 : j = 4 → w' 1 = w 1) (h2 : j = 5 → w' 2 = w 2) (h3 : j = 2 → w' 3 = w 3) (h4 : j = 3 → w' 4 = w 4) (h6 : 6 ≤ j → w' j = w j) : wc zw zh n w' j = wc zw zh n w j := by
  match j with
  | 0 => simp only [wc, h0 rfl]
  | 1 => rfl
  | 2 => simp only [wc, h3 rfl]
  | 3 => simp only [wc, h4 rfl]
  | 4 => simp only [wc, h1 rfl]
  | 5 => simp only [wc, h2 rfl]
  | (k + 6) => simp only [wc, h6 (by omega)]
theorem RW.wv (W : RW zw zh n w π) {i k : Nat} (hi : i < 16) (hk : k < 10) {x : Int32} : RW zw zh n (up2 w (6 + i) k x) (px_wr π (zw + 6 + i) (.inr (1, [Value.int (w (6 + i) 0), .int (w (6 + i) 1), .int (w (6 + i) 2), .int (w (6 + i) 3), .int (w (6 + i) 4), .int (w (6 + i) 5), .int (w (6 + i) 6), .int (w (6 + i) 7), .int (w (6 + i) 8), .int (w (6 + i) 9)].set k (.int x)))) := by
  rw [Nat.add_assoc]
  refine px_blk.wr W (by omega) ?_ ?_
  · rw [wc_ge, up2_u]
    obtain rfl | rfl | rfl | rfl | rfl | rfl | rfl | rfl | rfl | rfl : k = 0 ∨ k = 1 ∨ k = 2 ∨ k = 3 ∨ k = 4 ∨ k = 5 ∨ k = 6 ∨ k = 7 ∨ k = 8 ∨ k = 9 := by omega
    all_goals simp [upd]
  · intro j hj hne
    exact wc_row (fun q => up2_r (by omega)) (fun q => up2_r (by omega)) (fun q => up2_r (by omega)) (fun q => up2_r (by omega)) (fun q => up2_r (by omega)) (fun q => up2_r (by omega))
theorem RW.ws (W : RW zw zh n w π) {j : Nat} (hj : j < 5) {x : Int32} : RW zw zh n (up2 w 0 j x) (px_wr π zw (.inr (2, [Value.ref zh, .ref (zw + 1), .ref (zw + 4), .ref (zw + 5), .ref (zw + 2), .ref (zw + 3), .int (w 0 0), .int (w 0 1), .int (w 0 2), .int (w 0 3), .int (w 0 4)].set (6 + j) (.int x)))) := by
  refine px_blk.wr (k := 0) W (by omega) ?_ ?_
  · obtain rfl | rfl | rfl | rfl | rfl : j = 0 ∨ j = 1 ∨ j = 2 ∨ j = 3 ∨ j = 4 := by omega
    all_goals simp [wc, up2]
  · intro j hj hne
    exact wc_row (fun q => absurd q hne) (fun q => up2_r (by omega)) (fun q => up2_r (by omega)) (fun q => up2_r (by omega)) (fun q => up2_r (by omega)) (fun q => up2_r (by omega))
theorem RW.wa (W : RW zw zh n w π) {kk r m : Nat} (hr : (kk = 4 ∧ r = 1 ∧ m = n) ∨ (kk = 5 ∧ r = 2 ∧ m = n) ∨ (kk = 2 ∧ r = 3 ∧ m = 10) ∨ (kk = 3 ∧ r = 4 ∧ m = 10)) {c : Nat} {x : Int32} : RW zw zh n (up2 w r c x) (px_wr π (zw + kk) (.inl (.int, m, .inl (upd (w r) c x)))) := by
  refine px_blk.wr W (by omega) ?_ ?_
  · rcases hr with ⟨rfl, rfl, rfl⟩ | ⟨rfl, rfl, rfl⟩ | ⟨rfl, rfl, rfl⟩ | ⟨rfl, rfl, rfl⟩ <;> simp only [wc, up2_u]
  · intro j hj hne
    exact wc_row (fun q => up2_r (by omega)) (fun q => up2_r (by omega)) (fun q => up2_r (by omega)) (fun q => up2_r (by omega)) (fun q => up2_r (by omega)) (fun q => up2_r (by omega))
theorem SW.step {w' : Nat → Nat → Int32} (S : SW zw zh n w h π0 π) {a : Nat} {e : px_E} (h1 : zw ≤ a) (h2 : a < zw + 22) (W : RW zw zh n w' (px_wr π a e)) : SW zw zh n w' h π0 (px_wr π a e) := by
  obtain ⟨-, H, hz, O⟩ := S
  exact ⟨W, H.off (px_off.wr h1 h2) (by omega), hz, O.tr (px_off.wr h1 h2)⟩
end WST
section WSR
variable {Γ : px_Cm} {G : px_Cg} {Q : State → Prop} {cc : ByteArray} {own : String} {nc ns pc q : Nat} {ls : List (Option Value)} {st : List Value} {π π0 : px_H} {zh zw n : Nat} {h w : Nat → Nat → Int32}
/-- a visitor's field -/
theorem pw_v (X : px_X Γ G cc own) (hG : gg G) (S : SW zw zh n w h π0 π) {index i k : Nat} {x : Int32} (hF : px_FW G.Ts G.cl own index 1 k) (hfin : px_nf G.cl 1 k false) (hd : px_D cc pc (.putfield index) 3 q) (hi : i < 16) (hk : k < 10) (kk : ∀ π1, SW zw zh n (up2 w (6 + i) k x) h π0 π1 → px_G Γ G Q true nc ns q ls st π1) : px_G Γ G Q true nc ns pc ls (.int x :: .ref (zw + 6 + i) :: st) π := by
  have ht : ty_P k = .int := by
    obtain rfl | rfl | rfl | rfl | rfl | rfl | rfl | rfl | rfl | rfl : k = 0 ∨ k = 1 ∨ k = 2 ∨ k = 3 ∨ k = 4 ∨ k = 5 ∨ k = 6 ∨ k = 7 ∨ k = 8 ∨ k = 9 := by omega
    all_goals rfl
  exact pg_putf X hF (ct_P hG) hfin (by rw [ht]; rfl) (by rw [ht]; rfl) hd (S.1.v hi) (kk _ (S.step (by omega) (by omega) (S.1.wv hi hk)))
/-- a number of the walk's own -/
theorem pw_s (X : px_X Γ G cc own) (hG : gg G) (S : SW zw zh n w h π0 π) {index k j : Nat} {x : Int32} (hkj : k = 6 + j) (hF : px_FW G.Ts G.cl own index 2 k) (hfin : px_nf G.cl 2 k false) (hn : narrow (ty_K k) (.int x) = .int x) (hf : fits (ty_K k) (.int x) = true) (hd : px_D cc pc (.putfield index) 3 q) (hj : j < 5) (kk : ∀ π1, SW zw zh n (up2 w 0 j x) h π0 π1 → px_G Γ G Q true nc ns q ls st π1) : px_G Γ G Q true nc ns pc ls (.int x :: .ref zw :: st) π := by
  subst hkj
  exact pg_putf X hF (ct_K hG) hfin hn hf hd S.1.o (kk _ (S.step (by omega) (by omega) (S.1.ws hj)))
/-- a place of crowd, stayed, cameIn, doneWith -/
theorem pw_a (X : px_X Γ G cc own) (S : SW zw zh n w h π0 π) {kk r m c : Nat} {x : Int32} (hr : (kk = 4 ∧ r = 1 ∧ m = n) ∨ (kk = 5 ∧ r = 2 ∧ m = n) ∨ (kk = 2 ∧ r = 3 ∧ m = 10) ∨ (kk = 3 ∧ r = 4 ∧ m = 10)) (hd : px_D cc pc .iastore 1 q) (hc : c < m) (hm : m < 2 ^ 31) (k : ∀ π1, SW zw zh n (up2 w r c x) h π0 π1 → px_G Γ G Q true nc ns q ls st π1) : px_G Γ G Q true nc ns pc ls (.int x :: .int (nI c) :: .ref (zw + kk) :: st) π := by
  refine pg_iastN X hd (f := w r) (n := m) ?_ hc hm (k _ (S.step (by omega) (by omega) (S.1.wa hr)))
  rcases hr with ⟨rfl, rfl, rfl⟩ | ⟨rfl, rfl, rfl⟩ | ⟨rfl, rfl, rfl⟩ | ⟨rfl, rfl, rfl⟩
  · exact S.1.cr
  · exact S.1.sd
  · exact S.1.ca
  · exact S.1.dn
end WSR
section WSC
variable {l : Launch} {G : px_Cg} {π π0 : px_H} {K : Option Value ⊕ String → px_H → Prop} {zh zw n : Nat} {h w : Nat → Nat → Int32}
def trn (w : Nat → Nat → Int32) (i : Nat) (x : Int32) : Nat → Nat → Int32 := up2 (up2 w (6 + i) 6 x) (6 + i) 7 0
theorem t_turn (A : GA G) (S : SW zw zh n w h π0 π) {i : Nat} (hi : i < 16) {x : Int32} (k : ∀ π1, SW zw zh n (trn w i x) h π0 π1 → K (.inl none) π1) :
    px_P l G y_P_turnTo b_P_turnTo 2 none (px_rm 0 0) true [.ref (zw + 6 + i), .int x] π K := by
  refine t_P_turnTo A (S.1.v hi) (k _ ?_)
  have W1 := S.1.wv (k := 6) (x := x) hi (by decide)
  have W2 := W1.wv (k := 7) (x := 0) hi (by decide)
  rw [px_wr_wr] at W2
  have e6 : ∀ j, j ≠ 6 → up2 w (6 + i) 6 x (6 + i) j = w (6 + i) j := fun j hj => up2_n (Or.inr hj)
  have e66 : up2 w (6 + i) 6 x (6 + i) 6 = x := up2_s
  rw [e6 0 (by decide), e6 1 (by decide), e6 2 (by decide), e6 3 (by decide), e6 4 (by decide), e6 5 (by decide), e6 7 (by decide), e6 8 (by decide), e6 9 (by decide), e66] at W2
  exact S.step (by omega) (by omega) W2
end WSC
