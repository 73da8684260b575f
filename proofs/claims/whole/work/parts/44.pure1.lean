/-! what a loop's phase says: O l s: s is on in l; D l s: s is of l and not cut off -/
def onx (O : Nat → Nat → Bool) (l : Nat) (x : Int32) : Prop := ∃ s, O l s = true ∧ x = nI s
def lnk (B : Nat → Int32) (n l : Nat) (k : Int32) : Prop := ∃ e, e < n ∧ e ≠ l ∧ B (20 * l + 5) = nI e ∧ B (20 * e + 1) = k ∧ B (20 * e + 5) = nI l
def lpc (B : Nat → Int32) (O D : Nat → Nat → Bool) (n l : Nat) : Prop :=
  phs (B (20 * l + 1)) ∧
  (B (20 * l + 1) = 0 → B (20 * l + 3) = -1 ∧ B (20 * l + 4) = -1 ∧ B (20 * l + 5) = -1 ∧ B (20 * l + 6) = 0 ∧ ∀ s, O l s = false) ∧
  (B (20 * l + 1) = 1 → onx O l (B (20 * l + 3)) ∧ B (20 * l + 4) = -1 ∧ B (20 * l + 5) = -1 ∧ B (20 * l + 6) = 0) ∧
  (B (20 * l + 1) = 2 → onx O l (B (20 * l + 3)) ∧ B (20 * l + 4) = -1 ∧ B (20 * l + 6) = 0 ∧ lnk B n l 3) ∧
  (B (20 * l + 1) = 3 → onx D l (B (20 * l + 3)) ∧ B (20 * l + 4) = -1 ∧ B (20 * l + 6) = 0 ∧ (∀ s, O l s = false) ∧ lnk B n l 2) ∧
  (B (20 * l + 1) = 4 → onx O l (B (20 * l + 3)) ∧ B (20 * l + 4) = -1 ∧ lnk B n l 4) ∧
  (B (20 * l + 1) = 5 → onx O l (B (20 * l + 3)) ∧ B (20 * l + 4) = -1 ∧ B (20 * l + 5) = -1 ∧ B (20 * l + 6) = 0) ∧
  (B (20 * l + 1) = 6 → onx O l (B (20 * l + 3)) ∧ onx D l (B (20 * l + 4)) ∧ B (20 * l + 5) = -1 ∧ B (20 * l + 6) = 0) ∧
  (B (20 * l + 1) = 7 → onx D l (B (20 * l + 3)) ∧ onx D l (B (20 * l + 4)) ∧ B (20 * l + 5) = -1 ∧ B (20 * l + 6) = 0 ∧ ∀ s, O l s = false) ∧
  (B (20 * l + 1) = 8 → onx D l (B (20 * l + 3)) ∧ onx O l (B (20 * l + 4)) ∧ B (20 * l + 5) = -1 ∧ B (20 * l + 6) = 0)
section
variable {B : Nat → Int32} {O D : Nat → Nat → Bool} {n l : Nat}
theorem lpc_mk0 (hp : B (20 * l + 1) = 0) (h : B (20 * l + 3) = -1 ∧ B (20 * l + 4) = -1 ∧ B (20 * l + 5) = -1 ∧ B (20 * l + 6) = 0 ∧ ∀ s, O l s = false) : lpc B O D n l := by
  unfold lpc; rw [hp]
  exact ⟨by simp [phs], fun _ => h, fun a => absurd a (by decide), fun a => absurd a (by decide), fun a => absurd a (by decide), fun a => absurd a (by decide), fun a => absurd a (by decide), fun a => absurd a (by decide), fun a => absurd a (by decide), fun a => absurd a (by decide)⟩
theorem lpc_mk1 (hp : B (20 * l + 1) = 1) (h : onx O l (B (20 * l + 3)) ∧ B (20 * l + 4) = -1 ∧ B (20 * l + 5) = -1 ∧ B (20 * l + 6) = 0) : lpc B O D n l := by
  unfold lpc; rw [hp]
  exact ⟨by simp [phs], fun a => absurd a (by decide), fun _ => h, fun a => absurd a (by decide), fun a => absurd a (by decide), fun a => absurd a (by decide), fun a => absurd a (by decide), fun a => absurd a (by decide), fun a => absurd a (by decide), fun a => absurd a (by decide)⟩
theorem lpc_mk2 (hp : B (20 * l + 1) = 2) (h : onx O l (B (20 * l + 3)) ∧ B (20 * l + 4) = -1 ∧ B (20 * l + 6) = 0 ∧ lnk B n l 3) : lpc B O D n l := by
  unfold lpc; rw [hp]
  exact ⟨by simp [phs], fun a => absurd a (by decide), fun a => absurd a (by decide), fun _ => h, fun a => absurd a (by decide), fun a => absurd a (by decide), fun a => absurd a (by decide), fun a => absurd a (by decide), fun a => absurd a (by decide), fun a => absurd a (by decide)⟩
theorem lpc_mk3 (hp : B (20 * l + 1) = 3) (h : onx D l (B (20 * l + 3)) ∧ B (20 * l + 4) = -1 ∧ B (20 * l + 6) = 0 ∧ (∀ s, O l s = false) ∧ lnk B n l 2) : lpc B O D n l := by
  unfold lpc; rw [hp]
  exact ⟨by simp [phs], fun a => absurd a (by decide), fun a => absurd a (by decide), fun a => absurd a (by decide), fun _ => h, fun a => absurd a (by decide), fun a => absurd a (by decide), fun a => absurd a (by decide), fun a => absurd a (by decide), fun a => absurd a (by decide)⟩
theorem lpc_mk4 (hp : B (20 * l + 1) = 4) (h : onx O l (B (20 * l + 3)) ∧ B (20 * l + 4) = -1 ∧ lnk B n l 4) : lpc B O D n l := by
  unfold lpc; rw [hp]
  exact ⟨by simp [phs], fun a => absurd a (by decide), fun a => absurd a (by decide), fun a => absurd a (by decide), fun a => absurd a (by decide), fun _ => h, fun a => absurd a (by decide), fun a => absurd a (by decide), fun a => absurd a (by decide), fun a => absurd a (by decide)⟩
theorem lpc_mk5 (hp : B (20 * l + 1) = 5) (h : onx O l (B (20 * l + 3)) ∧ B (20 * l + 4) = -1 ∧ B (20 * l + 5) = -1 ∧ B (20 * l + 6) = 0) : lpc B O D n l := by
  unfold lpc; rw [hp]
  exact ⟨by simp [phs], fun a => absurd a (by decide), fun a => absurd a (by decide), fun a => absurd a (by decide), fun a => absurd a (by decide), fun a => absurd a (by decide), fun _ => h, fun a => absurd a (by decide), fun a => absurd a (by decide), fun a => absurd a (by decide)⟩
theorem lpc_mk6 (hp : B (20 * l + 1) = 6) (h : onx O l (B (20 * l + 3)) ∧ onx D l (B (20 * l + 4)) ∧ B (20 * l + 5) = -1 ∧ B (20 * l + 6) = 0) : lpc B O D n l := by
  unfold lpc; rw [hp]
  exact ⟨by simp [phs], fun a => absurd a (by decide), fun a => absurd a (by decide), fun a => absurd a (by decide), fun a => absurd a (by decide), fun a => absurd a (by decide), fun a => absurd a (by decide), fun _ => h, fun a => absurd a (by decide), fun a => absurd a (by decide)⟩
theorem lpc_mk7 (hp : B (20 * l + 1) = 7) (h : onx D l (B (20 * l + 3)) ∧ onx D l (B (20 * l + 4)) ∧ B (20 * l + 5) = -1 ∧ B (20 * l + 6) = 0 ∧ ∀ s, O l s = false) : lpc B O D n l := by
  unfold lpc; rw [hp]
  exact ⟨by simp [phs], fun a => absurd a (by decide), fun a => absurd a (by decide), fun a => absurd a (by decide), fun a => absurd a (by decide), fun a => absurd a (by decide), fun a => absurd a (by decide), fun a => absurd a (by decide), fun _ => h, fun a => absurd a (by decide)⟩
theorem lpc_mk8 (hp : B (20 * l + 1) = 8) (h : onx D l (B (20 * l + 3)) ∧ onx O l (B (20 * l + 4)) ∧ B (20 * l + 5) = -1 ∧ B (20 * l + 6) = 0) : lpc B O D n l := by
  unfold lpc; rw [hp]
  exact ⟨by simp [phs], fun a => absurd a (by decide), fun a => absurd a (by decide), fun a => absurd a (by decide), fun a => absurd a (by decide), fun a => absurd a (by decide), fun a => absurd a (by decide), fun a => absurd a (by decide), fun a => absurd a (by decide), fun _ => h⟩
/-- a loop whose own cells, whose subscribers and whose partner are as before -/
theorem lpc_fr {B2 : Nat → Int32} {O2 D2 : Nat → Nat → Bool} (h : lpc B O D n l) (h1 : B2 (20 * l + 1) = B (20 * l + 1)) (h3 : B2 (20 * l + 3) = B (20 * l + 3)) (h4 : B2 (20 * l + 4) = B (20 * l + 4)) (h5 : B2 (20 * l + 5) = B (20 * l + 5)) (h6 : B2 (20 * l + 6) = B (20 * l + 6)) (hO : O2 l = O l) (hD : D2 l = D l) (hp : ∀ e, e < n → e ≠ l → B (20 * l + 5) = nI e → B (20 * e + 5) = nI l → B2 (20 * e + 1) = B (20 * e + 1) ∧ B2 (20 * e + 5) = B (20 * e + 5)) : lpc B2 O2 D2 n l := by
  have hl : ∀ k, lnk B n l k → lnk B2 n l k := fun k hk => by
    obtain ⟨e, a1, a2, a3, a4, a5⟩ := hk
    obtain ⟨b1, b2⟩ := hp e a1 a2 a3 a5
    exact ⟨e, a1, a2, h5.trans a3, b1.trans a4, b2.trans a5⟩
  unfold lpc onx at *
  rw [h1, h3, h4, h5, h6, hO, hD]
  obtain ⟨a, b0, b1, b2, b3, b4, b5, b6, b7, b8⟩ := h
  exact ⟨a, b0, b1, fun q => ⟨(b2 q).1, (b2 q).2.1, (b2 q).2.2.1, hl _ (b2 q).2.2.2⟩, fun q => ⟨(b3 q).1, (b3 q).2.1, (b3 q).2.2.1, (b3 q).2.2.2.1, hl _ (b3 q).2.2.2.2⟩, fun q => ⟨(b4 q).1, (b4 q).2.1, hl _ (b4 q).2.2⟩, b5, b6, b7, b8⟩
/-- another end is there only in the phases 2, 3, 4, and it leads back -/
theorem lpc_link (h : lpc B O D n l) (h5 : B (20 * l + 5) ≠ -1) : (B (20 * l + 1) = 2 ∨ B (20 * l + 1) = 3 ∨ B (20 * l + 1) = 4) ∧ ∃ k, lnk B n l k := by
  obtain ⟨a, b0, b1, b2, b3, b4, b5, b6, b7, b8⟩ := h
  rcases a with p | p | p | p | p | p | p | p | p
  · exact absurd (b0 p).2.2.1 h5
  · exact absurd (b1 p).2.2.1 h5
  · exact ⟨Or.inl p, _, (b2 p).2.2.2⟩
  · exact ⟨Or.inr (Or.inl p), _, (b3 p).2.2.2.2⟩
  · exact ⟨Or.inr (Or.inr p), _, (b4 p).2.2⟩
  · exact absurd (b5 p).2.2.1 h5
  · exact absurd (b6 p).2.2.1 h5
  · exact absurd (b7 p).2.2.1 h5
  · exact absurd (b8 p).2.2.1 h5
end
/-- who is a party -/
def pty (B : Nat → Int32) (l s : Nat) : Prop := B (20 * l + 3) = nI s ∨ (B (20 * l + 1) = 8 ∧ B (20 * l + 4) = nI s)
/-- the reference's roles of a loop's subscribers -/
def rlo (B N : Nat → Int32) (m l : Nat) : Prop := (∀ s, mem B m l s → B (101 + 8 * s + 7) ≠ 0 → cs_on B m l s = true) ∧ ∀ s, cs_on B m l s = true → (pty B l s → B (101 + 8 * s + 7) = 0 ∧ N (101 + 8 * s + 7) = 0) ∧ (¬ pty B l s → N (101 + 8 * s + 7) = if B (101 + 8 * s + 7) = 0 then 3 else 4)
theorem rlo_fr {B N B2 N2 : Nat → Int32} {m l : Nat} (h : rlo B N m l) (hM : ∀ s, mem B2 m l s ↔ mem B m l s) (hO : ∀ s, cs_on B2 m l s = cs_on B m l s) (hP : ∀ s, cs_on B m l s = true → (pty B2 l s ↔ pty B l s)) (h7 : ∀ s, mem B m l s → B2 (101 + 8 * s + 7) = B (101 + 8 * s + 7)) (hN : ∀ s, cs_on B m l s = true → N2 (101 + 8 * s + 7) = N (101 + 8 * s + 7)) : rlo B2 N2 m l := by
  refine ⟨fun s hs h2 => ?_, fun s hs => ?_⟩
  · rw [hO]; rw [hM] at hs; rw [h7 s hs] at h2; exact h.1 s hs h2
  · rw [hO] at hs
    have hm := (on_iff.1 hs).1
    rw [hP s hs, h7 s hm, hN s hs]
    exact h.2 s hs
/-- cells that say who is on -/
def sm (B B2 : Nat → Int32) (m : Nat) : Prop := (∀ s, s < m → B2 (101 + 8 * s + 1) = B (101 + 8 * s + 1) ∧ B2 (101 + 8 * s + 2) = B (101 + 8 * s + 2) ∧ B2 (101 + 8 * s + 6) = B (101 + 8 * s + 6)) ∧ ∀ l, l < 5 → B2 (20 * l + 7) = B (20 * l + 7) ∧ B2 (20 * l + 8) = B (20 * l + 8)
section
variable {B B2 : Nat → Int32} {m l : Nat}
theorem sm_mem (h : sm B B2 m) {s : Nat} : mem B2 m l s ↔ mem B m l s := by
  unfold mem
  constructor
  · rintro ⟨a, b⟩; exact ⟨a, by rw [← (h.1 s a).1]; exact b⟩
  · rintro ⟨a, b⟩; exact ⟨a, by rw [(h.1 s a).1]; exact b⟩
theorem sm_cut (h : sm B B2 m) (hl : l < 5) {s : Nat} (hs : s < m) : cs_cuts B2 l s = cs_cuts B l s := by
  unfold cs_cuts cs_flt
  rw [(h.2 l hl).1, (h.2 l hl).2, (h.1 s hs).2.1]
theorem sm_on (h : sm B B2 m) (hl : l < 5) : cs_on B2 m l = cs_on B m l := by
  funext s
  rw [Bool.eq_iff_iff, on_iff, on_iff, sm_mem h]
  constructor
  · rintro ⟨a, b, c⟩; rw [(h.1 s a.1).2.2] at b; rw [sm_cut h hl a.1] at c; exact ⟨a, b, c⟩
  · rintro ⟨a, b, c⟩; exact ⟨a, by rw [(h.1 s a.1).2.2]; exact b, by rw [sm_cut h hl a.1]; exact c⟩
theorem sm_in (h : sm B B2 m) (hl : l < 5) : cs_in B2 m l = cs_in B m l := by
  funext s
  rw [Bool.eq_iff_iff, in_iff, in_iff, sm_mem h]
  constructor
  · rintro ⟨a, c⟩; rw [sm_cut h hl a.1] at c; exact ⟨a, c⟩
  · rintro ⟨a, c⟩; exact ⟨a, by rw [sm_cut h hl a.1]; exact c⟩
theorem sm.rfl' : sm B B m := ⟨fun _ _ => ⟨rfl, rfl, rfl⟩, fun _ _ => ⟨rfl, rfl⟩⟩
theorem sm.trans {B3 : Nat → Int32} (h : sm B B2 m) (h2 : sm B2 B3 m) : sm B B3 m := ⟨fun s hs => ⟨(h2.1 s hs).1.trans (h.1 s hs).1, (h2.1 s hs).2.1.trans (h.1 s hs).2.1, (h2.1 s hs).2.2.trans (h.1 s hs).2.2⟩, fun l hl => ⟨(h2.2 l hl).1.trans (h.2 l hl).1, (h2.2 l hl).2.trans (h.2 l hl).2⟩⟩
theorem sm_comes {p f q e : Int32} (hl : l < 5) (hm : m ≤ 16) : sm B (mf_comes B l p f q e) m := ⟨fun s hs => ⟨mcomes_ne (by omega), mcomes_ne (by omega), mcomes_ne (by omega)⟩, fun l2 h2 => ⟨mcomes_ne (by omega), mcomes_ne (by omega)⟩⟩
theorem sm_upd {x : Nat} {v : Int32} (h1 : ∀ s, s < m → x ≠ 101 + 8 * s + 1 ∧ x ≠ 101 + 8 * s + 2 ∧ x ≠ 101 + 8 * s + 6) (h2 : ∀ l, l < 5 → x ≠ 20 * l + 7 ∧ x ≠ 20 * l + 8) : sm B (upd B x v) m := ⟨fun s hs => ⟨upd_ne _ _ (Ne.symm (h1 s hs).1), upd_ne _ _ (Ne.symm (h1 s hs).2.1), upd_ne _ _ (Ne.symm (h1 s hs).2.2)⟩, fun l hl => ⟨upd_ne _ _ (Ne.symm (h2 l hl).1), upd_ne _ _ (Ne.symm (h2 l hl).2)⟩⟩
end
/-! the lowest that is on -/
theorem lowF_ch {B : Nat → Int32} {m l : Nat} : ∀ (k i : Nat), (cs_lowF B m l k i = -1 ∧ ∀ j, i ≤ j → j < i + k → cs_on B m l j = false) ∨ ∃ j, i ≤ j ∧ j < i + k ∧ cs_lowF B m l k i = nI j ∧ cs_on B m l j = true ∧ ∀ t, i ≤ t → t < j → cs_on B m l t = false
  | 0, i => Or.inl ⟨rfl, fun j h1 h2 => absurd h1 (by omega)⟩
  | k + 1, i => by
    unfold cs_lowF
    by_cases h : cs_on B m l i = true
    · rw [if_pos h]
      exact Or.inr ⟨i, Nat.le_refl i, by omega, rfl, h, fun t h1 h2 => absurd h1 (by omega)⟩
    · rw [if_neg h]
      have h0 : cs_on B m l i = false := by simpa using h
      rcases lowF_ch (B := B) (m := m) (l := l) k (i + 1) with ⟨a, b⟩ | ⟨j, a1, a2, a3, a4, a5⟩
      · refine Or.inl ⟨a, fun j h1 h2 => ?_⟩
        by_cases e : j = i
        · subst e; exact h0
        · exact b j (by omega) (by omega)
      · refine Or.inr ⟨j, by omega, by omega, a3, a4, fun t h1 h2 => ?_⟩
        by_cases e : t = i
        · subst e; exact h0
        · exact a5 t (by omega) h2
theorem low_ch {B : Nat → Int32} {m l : Nat} (hm : m ≤ 16) : (cs_low B m l = -1 ∧ ∀ j, cs_on B m l j = false) ∨ ∃ j, j < m ∧ cs_low B m l = nI j ∧ cs_on B m l j = true ∧ ∀ t, t < j → cs_on B m l t = false := by
  rcases lowF_ch (B := B) (m := m) (l := l) 16 0 with ⟨a, b⟩ | ⟨j, a1, a2, a3, a4, a5⟩
  · refine Or.inl ⟨a, fun j => ?_⟩
    by_cases h : j < 16
    · exact b j (by omega) (by omega)
    · by_cases h2 : cs_on B m l j = true
      · exact absurd (on_iff.1 h2).1.1 (by omega)
      · simpa using h2
  · exact Or.inr ⟨j, (on_iff.1 a4).1.1, a3, a4, fun t ht => a5 t (by omega) ht⟩
theorem on_7 {N : Nat → Int32} {l i s : Nat} {v : Int32} : mf_on (upd N (101 + 8 * i + 7) v) l s = mf_on N l s ∨ 5 ≤ l := by
  by_cases hl : l < 5
  · left
    unfold mf_on mf_cut
    rw [upd_ne _ _ (by omega), upd_ne _ _ (by omega), upd_ne _ _ (by omega), upd_ne _ _ (by omega), upd_ne _ _ (by omega)]
  · exact Or.inr (by omega)
/-- the reference's way through the subscribers, downwards -/
theorem lv_ch {l : Nat} (hl : l < 5) : ∀ (k : Nat) (N : Nat → Int32) (f : Int32), (∀ x, (mf_lv l k N f).1 x = N x ∨ ∃ s, s < k ∧ mf_on N l s ≠ 0 ∧ x = 101 + 8 * s + 7) ∧ (∀ s, s < k → mf_on N l s ≠ 0 → (mf_lv l k N f).1 (101 + 8 * s + 7) = 3) ∧ (((mf_lv l k N f).2 = f ∧ ∀ s, s < k → mf_on N l s = 0) ∨ ∃ s, s < k ∧ (mf_lv l k N f).2 = nI s ∧ mf_on N l s ≠ 0 ∧ ∀ t, t < s → mf_on N l t = 0)
  | 0, N, f => ⟨fun x => Or.inl rfl, fun s hs => absurd hs (by omega), Or.inl ⟨rfl, fun s hs => absurd hs (by omega)⟩⟩
  | k + 1, N, f => by
    unfold mf_lv
    by_cases h : mf_on N l k = 0
    · rw [if_pos h]
      obtain ⟨a, b, c⟩ := lv_ch hl k N f
      refine ⟨fun x => ?_, fun s hs h2 => ?_, ?_⟩
      · rcases a x with q | ⟨s, q1, q2, q3⟩
        · exact Or.inl q
        · exact Or.inr ⟨s, by omega, q2, q3⟩
      · by_cases e : s = k
        · subst e; exact absurd h h2
        · exact b s (by omega) h2
      · rcases c with ⟨q1, q2⟩ | ⟨s, q1, q2, q3, q4⟩
        · refine Or.inl ⟨q1, fun s hs => ?_⟩
          by_cases e : s = k
          · subst e; exact h
          · exact q2 s (by omega)
        · exact Or.inr ⟨s, by omega, q2, q3, q4⟩
    · rw [if_neg h]
      have on7 : ∀ s, mf_on (upd N (101 + 8 * k + 7) 3) l s = mf_on N l s := fun s => (on_7).resolve_right (by omega)
      obtain ⟨a, b, c⟩ := lv_ch hl k (upd N (101 + 8 * k + 7) 3) (nI k)
      simp only [on7] at a b c
      refine ⟨fun x => ?_, fun s hs h2 => ?_, ?_⟩
      · rcases a x with q | ⟨s, q1, q2, q3⟩
        · by_cases e : x = 101 + 8 * k + 7
          · exact Or.inr ⟨k, by omega, h, e⟩
          · rw [upd_ne _ _ e] at q; exact Or.inl q
        · exact Or.inr ⟨s, by omega, q2, q3⟩
      · by_cases e : s = k
        · subst e
          rcases a (101 + 8 * s + 7) with q | ⟨s2, q1, q2, q3⟩
          · rw [q, upd_self]
          · omega
        · exact b s (by omega) h2
      · rcases c with ⟨q1, q2⟩ | ⟨s, q1, q2, q3, q4⟩
        · exact Or.inr ⟨k, by omega, q1, h, fun t ht => q2 t ht⟩
        · exact Or.inr ⟨s, by omega, q2, q3, q4⟩
theorem unl7 {m l : Nat} : ∀ (k i : Nat) (B : Nat → Int32) {s : Nat}, s < i → cs_unl m l k i B (101 + 8 * s + 7) = B (101 + 8 * s + 7)
  | 0, _, _, _, _ => rfl
  | k + 1, i, B, s, h => by
    unfold cs_unl
    rw [unl7 k (i + 1) _ (by omega)]
    split
    · exact upd_ne _ _ (by omega)
    · rfl
theorem unl_ch {m l : Nat} : ∀ (k i : Nat) (B : Nat → Int32), (∀ x, cs_unl m l k i B x = B x ∨ ∃ s, mem B m l s ∧ x = 101 + 8 * s + 7) ∧ (∀ s, i ≤ s → s < i + k → mem B m l s → cs_unl m l k i B (101 + 8 * s + 7) = 0)
  | 0, i, B => ⟨fun x => Or.inl rfl, fun s h1 h2 => absurd h1 (by omega)⟩
  | k + 1, i, B => by
    unfold cs_unl
    by_cases h : mem B m l i
    · rw [if_pos h]
      have mm : ∀ s, mem (upd B (101 + 8 * i + 7) 0) m l s ↔ mem B m l s := fun s => by unfold mem; rw [upd_ne _ _ (by omega)]
      obtain ⟨a, b⟩ := unl_ch (m := m) (l := l) k (i + 1) (upd B (101 + 8 * i + 7) 0)
      simp only [mm] at a b
      refine ⟨fun x => ?_, fun s h1 h2 h3 => ?_⟩
      · rcases a x with q | q
        · by_cases e : x = 101 + 8 * i + 7
          · exact Or.inr ⟨i, h, e⟩
          · rw [upd_ne _ _ e] at q; exact Or.inl q
        · exact Or.inr q
      · by_cases e : s = i
        · subst e
          rw [unl7 k (s + 1) _ (by omega), upd_self]
        · exact b s (by omega) (by omega) h3
    · rw [if_neg h]
      obtain ⟨a, b⟩ := unl_ch (m := m) (l := l) k (i + 1) B
      refine ⟨a, fun s h1 h2 h3 => ?_⟩
      by_cases e : s = i
      · subst e; exact absurd h3 h
      · exact b s (by omega) (by omega) h3
