/-! STATE: blocks of cells; the house's, the walk's cells -/
def px_blk (z N : Nat) (f : Nat → px_E) (π : px_H) : Prop := ∀ k, k < N → π.2 (z + k) = some (f k)
def px_off (z N : Nat) (π π' : px_H) : Prop := π'.1 = π.1 ∧ ∀ a, (a < z ∨ z + N ≤ a) → π'.2 a = π.2 a
def up2 (h : Nat → Nat → Int32) (r i : Nat) (v : Int32) : Nat → Nat → Int32 := fun r' i' => if r' = r ∧ i' = i then v else h r' i'
theorem up2_s {h : Nat → Nat → Int32} {r i : Nat} {v : Int32} : up2 h r i v r i = v := by simp [up2]
theorem up2_r {h : Nat → Nat → Int32} {r i r' : Nat} {v : Int32} (hr : r' ≠ r) : up2 h r i v r' = h r' := by funext i'; simp [up2, hr]
theorem up2_n {h : Nat → Nat → Int32} {r i r' i' : Nat} {v : Int32} (hr : r' ≠ r ∨ i' ≠ i) : up2 h r i v r' i' = h r' i' := by
  unfold up2
  rw [if_neg]
  rintro ⟨h1, h2⟩
  rcases hr with hr | hr
  · exact hr h1
  · exact hr h2
theorem up2_u {h : Nat → Nat → Int32} {r i : Nat} {v : Int32} : up2 h r i v r = upd (h r) i v := by funext i'; simp [up2, upd]
theorem px_wr_wr {π : px_H} {a : Nat} {e e' : px_E} : px_wr (px_wr π a e) a e' = px_wr π a e' := by
  unfold px_wr
  refine Prod.ext rfl ?_
  funext q
  by_cases hq : q = a <;> simp [hq]
theorem px_off.rf {z N : Nat} {π : px_H} : px_off z N π π := ⟨rfl, fun _ _ => rfl⟩
theorem px_off.tr {z N : Nat} {π π1 π2 : px_H} (h : px_off z N π π1) (h2 : px_off z N π1 π2) : px_off z N π π2 := ⟨h2.1.trans h.1, fun a ha => (h2.2 a ha).trans (h.2 a ha)⟩
theorem px_off.wr {z N a : Nat} {π : px_H} {e : px_E} (h1 : z ≤ a) (h2 : a < z + N) : px_off z N π (px_wr π a e) := ⟨rfl, fun b hb => px_wr_ne (by omega)⟩
theorem px_off.mono {z N z' N' : Nat} {π π' : px_H} (h : px_off z N π π') (h1 : z' ≤ z) (h2 : z + N ≤ z' + N') : px_off z' N' π π' := ⟨h.1, fun a ha => h.2 a (by omega)⟩
theorem px_blk.off {z N z' N' : Nat} {f : Nat → px_E} {π π' : px_H} (h : px_blk z N f π) (ho : px_off z' N' π π') (hd : z + N ≤ z' ∨ z' + N' ≤ z) : px_blk z N f π' := fun k hk => (ho.2 _ (by omega)).trans (h k hk)
theorem px_blk.wr {z N k : Nat} {f f' : Nat → px_E} {π : px_H} {e : px_E} (h : px_blk z N f π) (hk : k < N) (he : f' k = e) (ho : ∀ j, j < N → j ≠ k → f' j = f j) : px_blk z N f' (px_wr π (z + k) e) := by
  intro j hj
  by_cases hjk : j = k
  · subst hjk
    rw [px_wr_self, he]
  · rw [px_wr_ne (by omega), h j hj, ho j hj hjk]
/-- the cells of a House at zh: rows 0 scalars (width, height, seed, things, doors, room, patience), 1 wall, 2 goalCell, 3 interest, 4 stay, 5 queue, 6 + g distances to g -/
def hc (zh n : Nat) (h : Nat → Nat → Int32) : Nat → px_E := fun k => match k with
  | 0 => .inr (0, [.int (h 0 0), .int (h 0 1), .int (h 0 2), .ref (zh + 4), .ref (zh + 1), .ref (zh + 2), .ref (zh + 3), .int (h 0 3), .int (h 0 4), .int (h 0 5), .int (h 0 6), .ref (zh + 5), .ref (zh + 16)])
  | 1 => .inl (.int, 10, .inl (h 2))
  | 2 => .inl (.int, 6, .inl (h 3))
  | 3 => .inl (.int, 6, .inl (h 4))
  | 4 => .inl (.boolean, n, .inl (h 1))
  | 5 => .inl (.array .int, 10, .inr (.inl (fun j => some (zh + 6 + j))))
  | 16 => .inl (.int, n, .inl (h 5))
  | k => .inl (.int, n, .inl (h k))
abbrev RH (zh n : Nat) (h : Nat → Nat → Int32) (π : px_H) : Prop := px_blk zh 17 (hc zh n h) π
/-- the cells of a Walk at zw over a House at zh: rows 0 scalars (told, now, inside, gone, fleeing), 1 crowd, 2 stayed, 3 cameIn, 4 doneWith, 6 + i visitor i (second, door, group, key, state, cell, goal, looked, seenBits, seenCount) -/
def wc (zw zh n : Nat) (w : Nat → Nat → Int32) : Nat → px_E := fun k => match k with
  | 0 => .inr (2, [.ref zh, .ref (zw + 1), .ref (zw + 4), .ref (zw + 5), .ref (zw + 2), .ref (zw + 3), .int (w 0 0), .int (w 0 1), .int (w 0 2), .int (w 0 3), .int (w 0 4)])
  | 1 => .inl (.object "VisitorSteps$Visitor", 16, .inr (.inl (fun j => some (zw + 6 + j))))
  | 2 => .inl (.int, 10, .inl (w 3))
  | 3 => .inl (.int, 10, .inl (w 4))
  | 4 => .inl (.int, n, .inl (w 1))
  | 5 => .inl (.int, n, .inl (w 2))
  | k => .inr (1, [.int (w k 0), .int (w k 1), .int (w k 2), .int (w k 3), .int (w k 4), .int (w k 5), .int (w k 6), .int (w k 7), .int (w k 8), .int (w k 9)])
abbrev RW (zw zh n : Nat) (w : Nat → Nat → Int32) (π : px_H) : Prop := px_blk zw 22 (wc zw zh n w) π
section ST
variable {zh zw n : Nat} {h w : Nat → Nat → Int32} {π : px_H}
theorem RH.o (H : RH zh n h π) : π.2 zh = some (.inr (0, [.int (h 0 0), .int (h 0 1), .int (h 0 2), .ref (zh + 4), .ref (zh + 1), .ref (zh + 2), .ref (zh + 3), .int (h 0 3), .int (h 0 4), .int (h 0 5), .int (h 0 6), .ref (zh + 5), .ref (zh + 16)])) := H 0 (by decide)
theorem RH.gc (H : RH zh n h π) : π.2 (zh + 1) = some (.inl (.int, 10, .inl (h 2))) := H 1 (by decide)
theorem RH.it (H : RH zh n h π) : π.2 (zh + 2) = some (.inl (.int, 6, .inl (h 3))) := H 2 (by decide)
theorem RH.sy (H : RH zh n h π) : π.2 (zh + 3) = some (.inl (.int, 6, .inl (h 4))) := H 3 (by decide)
theorem RH.wl (H : RH zh n h π) : π.2 (zh + 4) = some (.inl (.boolean, n, .inl (h 1))) := H 4 (by decide)
theorem RH.ds (H : RH zh n h π) : π.2 (zh + 5) = some (.inl (.array .int, 10, .inr (.inl (fun j => some (zh + 6 + j))))) := H 5 (by decide)
theorem RH.qu (H : RH zh n h π) : π.2 (zh + 16) = some (.inl (.int, n, .inl (h 5))) := H 16 (by decide)
theorem RH.row (H : RH zh n h π) {g : Nat} (hg : g < 10) : π.2 (zh + 6 + g) = some (.inl (.int, n, .inl (h (6 + g)))) := by
  have h1 := H (6 + g) (by omega)
  rw [← Nat.add_assoc] at h1
  rw [h1]
  obtain rfl | rfl | rfl | rfl | rfl | rfl | rfl | rfl | rfl | rfl : g = 0 ∨ g = 1 ∨ g = 2 ∨ g = 3 ∨ g = 4 ∨ g = 5 ∨ g = 6 ∨ g = 7 ∨ g = 8 ∨ g = 9 := by omega
  all_goals rfl
theorem RW.o (H : RW zw zh n w π) : π.2 zw = some (.inr (2, [.ref zh, .ref (zw + 1), .ref (zw + 4), .ref (zw + 5), .ref (zw + 2), .ref (zw + 3), .int (w 0 0), .int (w 0 1), .int (w 0 2), .int (w 0 3), .int (w 0 4)])) := H 0 (by decide)
theorem RW.vs (H : RW zw zh n w π) : π.2 (zw + 1) = some (.inl (.object "VisitorSteps$Visitor", 16, .inr (.inl (fun j => some (zw + 6 + j))))) := H 1 (by decide)
theorem RW.ca (H : RW zw zh n w π) : π.2 (zw + 2) = some (.inl (.int, 10, .inl (w 3))) := H 2 (by decide)
theorem RW.dn (H : RW zw zh n w π) : π.2 (zw + 3) = some (.inl (.int, 10, .inl (w 4))) := H 3 (by decide)
theorem RW.cr (H : RW zw zh n w π) : π.2 (zw + 4) = some (.inl (.int, n, .inl (w 1))) := H 4 (by decide)
theorem RW.sd (H : RW zw zh n w π) : π.2 (zw + 5) = some (.inl (.int, n, .inl (w 2))) := H 5 (by decide)
theorem RW.v (H : RW zw zh n w π) {i : Nat} (hi : i < 16) : π.2 (zw + 6 + i) = some (.inr (1, [.int (w (6 + i) 0), .int (w (6 + i) 1), .int (w (6 + i) 2), .int (w (6 + i) 3), .int (w (6 + i) 4), .int (w (6 + i) 5), .int (w (6 + i) 6), .int (w (6 + i) 7), .int (w (6 + i) 8), .int (w (6 + i) 9)])) := by
  have h1 := H (6 + i) (by omega)
  rw [← Nat.add_assoc] at h1
  rw [h1]
  rw [Nat.add_comm 6 i]
  rfl
end ST
abbrev px_rm (f lo : Nat) : Room := { frames := f, cells := 0, slots := 0, locals := lo }

theorem px_l0 : (0 : Int32).toInt = 0 := by decide
theorem px_l1 : (1 : Int32).toInt = 1 := by decide
theorem px_l2 : (2 : Int32).toInt = 2 := by decide
theorem px_l3 : (3 : Int32).toInt = 3 := by decide
theorem px_l4 : (4 : Int32).toInt = 4 := by decide
theorem px_l5 : (5 : Int32).toInt = 5 := by decide
theorem px_l6 : (6 : Int32).toInt = 6 := by decide
theorem px_l10 : (10 : Int32).toInt = 10 := by decide
theorem px_l11 : (11 : Int32).toInt = 11 := by decide
theorem px_l12 : (12 : Int32).toInt = 12 := by decide
theorem px_l16 : (16 : Int32).toInt = 16 := by decide
theorem px_l30 : (30 : Int32).toInt = 30 := by decide
theorem px_l100 : (100 : Int32).toInt = 100 := by decide
theorem px_l400 : (400 : Int32).toInt = 400 := by decide
section PGN
variable {Γ : px_Cm} {G : px_Cg} {Q : State → Prop} {cc : ByteArray} {own : String} {w : Bool} {nc ns pc q : Nat} {ls : List (Option Value)} {st : List Value} {π : px_H}
theorem pg_ialdN (X : px_X Γ G cc own) {a n j : Nat} {f : Nat → Int32} (hd : px_D cc pc .iaload 1 q) (hr : px_rd G.ρ π a (.inl (.int, n, .inl f))) (hj : j < n) (hn : n < 2 ^ 31) (kk : px_G Γ G Q w nc ns q ls (.int (f j) :: st) π) : px_G Γ G Q w nc ns pc ls (.int (nI j) :: .ref a :: st) π :=
  pg_iald X hd hr (vp_in_nI hj hn) (by rw [nI_clamp (by omega)]; exact kk)
theorem pg_zaldN (X : px_X Γ G cc own) {a n j : Nat} {f : Nat → Int32} (hd : px_D cc pc .baload 1 q) (hr : px_rd G.ρ π a (.inl (.boolean, n, .inl f))) (hj : j < n) (hn : n < 2 ^ 31) (kk : px_G Γ G Q w nc ns q ls (.int (f j) :: st) π) : px_G Γ G Q w nc ns pc ls (.int (nI j) :: .ref a :: st) π :=
  pg_zald X hd hr (vp_in_nI hj hn) (by rw [nI_clamp (by omega)]; exact kk)
theorem pg_aaldN (X : px_X Γ G cc own) {a n j b : Nat} {ty : FieldType} {f : Nat → Option Nat} (hd : px_D cc pc .aaload 1 q) (hr : px_rd G.ρ π a (.inl (ty, n, .inr (.inl f)))) (hty : ty.isReference = true) (hj : j < n) (hn : n < 2 ^ 31) (hb : f j = some b) (kk : px_G Γ G Q w nc ns q ls (.ref b :: st) π) : px_G Γ G Q w nc ns pc ls (.int (nI j) :: .ref a :: st) π :=
  pg_aald X hd hr hty (vp_in_nI hj hn) (by rw [nI_clamp (by omega), hb]; exact kk)
theorem pg_iastN (X : px_X Γ G cc own) {a n j : Nat} {f : Nat → Int32} {x : Int32} (hd : px_D cc pc .iastore 1 q) (hr : π.2 a = some (.inl (.int, n, .inl f))) (hj : j < n) (hn : n < 2 ^ 31) (kk : px_G Γ G Q true nc ns q ls st (px_wr π a (.inl (.int, n, .inl (upd f j x))))) : px_G Γ G Q true nc ns pc ls (.int x :: .int (nI j) :: .ref a :: st) π :=
  pg_iast X hd hr (vp_in_nI hj hn) (by rw [nI_clamp (by omega)]; exact kk)
theorem pg_zastN (X : px_X Γ G cc own) {a n j : Nat} {f : Nat → Int32} {x : Int32} (hd : px_D cc pc .bastore 1 q) (hr : π.2 a = some (.inl (.boolean, n, .inl f))) (hj : j < n) (hn : n < 2 ^ 31) (hx : narrow .boolean (.int x) = .int x) (kk : px_G Γ G Q true nc ns q ls st (px_wr π a (.inl (.boolean, n, .inl (upd f j x))))) : px_G Γ G Q true nc ns pc ls (.int x :: .int (nI j) :: .ref a :: st) π :=
  pg_zast X hd hr (vp_in_nI hj hn) hx (by rw [nI_clamp (by omega)]; exact kk)
end PGN
