/-! cells of a state's row that no receiver, number, tick or fault changes: counts, homes, positions, codes, privacy, weights, the limit -/
def st (x : Nat) : Prop := x = 0 ∨ x = 101 ∨ (101 < x ∧ x < 230 ∧ 1 ≤ (x - 101) % 8 ∧ (x - 101) % 8 ≤ 5) ∨ x = 230
def stl (B C : Nat → Int32) : Prop := ∀ x, st x → C x = B x
theorem stl.rfl' {B : Nat → Int32} : stl B B := fun _ _ => rfl
theorem stl.trans {B C D : Nat → Int32} (h : stl B C) (h2 : stl C D) : stl B D := fun x hx => (h2 x hx).trans (h x hx)
theorem stl_upd {B : Nat → Int32} {k : Nat} {v : Int32} (h : ¬ st k) : stl B (upd B k v) := fun x hx => upd_ne _ _ (fun e => h (e ▸ hx))
theorem st_lo {l k : Nat} (hl : l < 5) (h1 : 1 ≤ k) (h2 : k ≤ 20) : ¬ st (20 * l + k) := by unfold st; omega
theorem st_su {s k : Nat} (h1 : 6 ≤ k) (h2 : k ≤ 8) : ¬ st (101 + 8 * s + k) := by unfold st; omega
theorem st_ct {k : Nat} (h1 : 230 < k) : ¬ st k := by unfold st; omega
theorem st_0 : st 0 := Or.inl rfl
theorem st_101 : st 101 := Or.inr (Or.inl rfl)
theorem st_230 : st 230 := by unfold st; omega
theorem st_sub {s k : Nat} (hs : s < 16) (h1 : 1 ≤ k) (h2 : k ≤ 5) : st (101 + 8 * s + k) := by unfold st; omega
theorem cg_stl {B C : Nat → Int32} {n m : Nat} (h : stl B C) (G : cg B n m) : cg C n m := by
  obtain ⟨g1, g2, g3, g4, g5, g6⟩ := G
  refine ⟨(h 0 st_0).trans g1, g2, (h 101 st_101).trans g3, g4, fun s hs => ?_, fun s hs => ?_⟩
  · rw [h _ (st_sub (by omega) (by omega) (by omega))]; exact g5 s hs
  · rw [h _ (st_sub (by omega) (by omega) (by omega))]; exact g6 s hs
theorem stl_comeTo {B : Nat → Int32} {l : Nat} {p : Int32} (hl : l < 5) : stl B (cs_comeTo B l p) := fun x hx => comeTo_hi (by unfold st at hx; omega)
theorem stl_cw {B : Nat → Int32} {l : Nat} {p f : Int32} (hl : l < 5) : stl B (cs_cw B l p f) := fun x hx => cw_hi (by unfold st at hx; omega)
theorem stl_inc {B : Nat → Int32} {k : Nat} (h : 230 < k) : stl B (cs_inc B k) := stl_upd (st_ct h)
theorem stl_leave {B : Nat → Int32} {m l : Nat} (hl : l < 5) : stl B (cs_leave B m l) := fun x hx => leave_hi (by unfold st at hx; omega) (by unfold st at hx; omega)
theorem stl_far {B : Nat → Int32} {n l : Nat} (hn : n ≤ 5) : stl B (cs_far B n l) := by
  cases he : lk n (B (20 * l + 5)) with
  | none => simp only [cs_far, he]; exact stl.rfl'
  | some e => simp only [cs_far, he]; exact stl_comeTo (by have := (lk_some he).2; omega)
theorem stl_end {B : Nat → Int32} {n m l : Nat} (hn : n ≤ 5) (hl : l < 5) : stl B (cs_end B n m l) := (stl_far hn).trans (stl_leave hl)
theorem stl_upon {B : Nat → Int32} {m l s : Nat} : stl B (cs_upon B m l s) := by
  unfold cs_upon
  split
  · exact stl_inc (by decide)
  · exact (stl_upd (st_su (by decide) (by decide))).trans (stl_inc (by decide))
theorem stl_answer {B : Nat → Int32} {n l s : Nat} (hn : n ≤ 5) (hl : l < 5) : stl B (cs_answer B n l s) := by
  unfold cs_answer
  refine stl.trans ?_ (stl_inc (by decide))
  cases he : lk n (cs_cw B l 4 (nI s) (20 * l + 5)) with
  | none => exact stl_cw hl
  | some e =>
    have := (lk_some he).2
    exact (stl_cw hl).trans ((stl_comeTo (by omega)).trans (stl_upd (st_lo (by omega) (by decide) (by decide))))
theorem stl_ansIn {B : Nat → Int32} {l s : Nat} (hl : l < 5) : stl B (cs_ansIn B l s) := by
  unfold cs_ansIn
  split
  · exact stl_comeTo hl
  · exact (stl_comeTo hl).trans ((stl_upd (st_lo hl (by decide) (by decide))).trans (stl_inc (by decide)))
theorem stl_lift {B : Nat → Int32} {n m l s : Nat} (hn : n ≤ 5) (hl : l < 5) : stl B (cs_lift B n m l s) := by
  have h1 : stl B (upd B (101 + 8 * s + 6) 1) := stl_upd (st_su (by decide) (by decide))
  simp only [cs_lift]
  refine h1.trans ?_
  split
  · split
    · exact stl_cw hl
    · split
      · exact stl_answer hn hl
      · split
        · exact stl_ansIn hl
        · split
          · split
            · exact stl.rfl'
            · exact stl_upon
          · exact stl_upon
  · exact stl.rfl'
theorem stl_hang {B : Nat → Int32} {n m l s : Nat} (hn : n ≤ 5) (hl : l < 5) : stl B (cs_hang B n m l s) := by
  have h1 : stl B (upd (upd B (101 + 8 * s + 6) 0) (101 + 8 * s + 7) 0) := (stl_upd (st_su (by decide) (by decide))).trans (stl_upd (st_su (by decide) (by decide)))
  simp only [cs_hang]
  refine h1.trans ?_
  split
  · exact stl.rfl'
  · split
    · split
      · exact stl_comeTo hl
      · exact stl_end hn hl
    · exact stl_end hn hl
theorem stl_units {B : Nat → Int32} {m l : Nat} : stl B (cs_units B m l) := by
  cases he : lk m (B (20 * l + 3)) with
  | none => simp only [cs_units, he]; exact stl.rfl'
  | some e =>
    simp only [cs_units, he]
    split
    · exact stl.rfl'
    · split
      · exact stl_upd (st_su (by decide) (by decide))
      · exact stl.rfl'
theorem stl_turn {B : Nat → Int32} {n m l : Nat} (hn : n ≤ 5) (hl : l < 5) : stl B (cs_turn B n m l) := by
  unfold cs_turn
  split
  · exact stl_comeTo hl
  · split
    · exact (stl_inc (by decide)).trans (stl_end hn hl)
    · split
      · split
        · exact stl_units
        · exact stl_units.trans (stl_end hn hl)
      · exact stl.rfl'
theorem stl_turns {n m : Nat} (hn : n ≤ 5) : ∀ (k i : Nat) (B : Nat → Int32), i + k = 5 → stl B (cs_turns n m k i B)
  | 0, _, _, _ => stl.rfl'
  | k + 1, i, B, h => by
    unfold cs_turns
    split
    · exact (stl_turn hn (by omega)).trans (stl_turns hn k (i + 1) _ (by omega))
    · exact stl_turns hn k (i + 1) _ (by omega)
theorem stl_tim {n : Nat} : ∀ (k i : Nat) (B : Nat → Int32), i + k = 5 → stl B (cs_tim n k i B)
  | 0, _, _, _ => stl.rfl'
  | k + 1, i, B, h => by
    unfold cs_tim
    split
    · exact (stl_upd (st_lo (by omega) (by decide) (by decide))).trans (stl_tim k (i + 1) _ (by omega))
    · exact stl_tim k (i + 1) _ (by omega)
theorem stl_tick {B : Nat → Int32} {n m : Nat} (hn : n ≤ 5) : stl B (cs_tick B n m) := (stl_tim 5 0 B (by decide)).trans (stl_turns hn 5 0 _ (by decide))
theorem stl_ring {B : Nat → Int32} {l e le : Nat} (hl : l < 5) (hle : le < 5) : stl B (cs_ring B l e le) := (stl_cw hle).trans ((stl_upd (st_lo hle (by decide) (by decide))).trans (stl_upd (st_lo hl (by decide) (by decide))))
theorem stl_dial {B : Nat → Int32} {n m l s : Nat} {x : Int32} (G : cg B n m) (hl : l < 5) : stl B (cs_dial B m l s x) := by
  simp only [cs_dial]
  refine (stl_comeTo (p := cs_dials B m s x) hl).trans ?_
  split
  · exact stl_inc (by decide)
  · split
    · exact stl_upd (st_lo hl (by decide) (by decide))
    · cases hk : lk m x with
      | none => exact stl.rfl'
      | some e =>
        obtain ⟨le, h1, h2⟩ := G.2.2.2.2.1 e (lk_some hk).2
        have := G.2.1
        show stl _ (cs_ring _ l e (hm B e))
        rw [hm_of h2 (by omega)]
        exact stl_ring hl (by omega)
theorem stl_break {B : Nat → Int32} {n m l : Nat} {k x : Int32} (hn : n ≤ 5) (hl : l < 5) : stl B (cs_break B n m l k x) := (stl_upd (st_lo hl (by decide) (by decide))).trans ((stl_upd (st_lo hl (by decide) (by decide))).trans (stl_end hn hl))
theorem stl_clear {B : Nat → Int32} {l : Nat} (hl : l < 5) : stl B (cs_clear B l) := (stl_upd (st_lo hl (by decide) (by decide))).trans (stl_upd (st_lo hl (by decide) (by decide)))
theorem stl_mend {B : Nat → Int32} {n m l : Nat} (hn : n ≤ 5) (hl : l < 5) : stl B (cs_mend B n m l) := by
  simp only [cs_mend]
  refine (stl_clear hl).trans ?_
  split
  · exact stl.rfl'
  · split
    · exact stl_end hn hl
    · split
      · exact stl.rfl'
      · exact stl_end hn hl
