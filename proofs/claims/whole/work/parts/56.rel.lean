/-! the whole relation: the two rows now, and the saved ones -/
def Hs (o : wd_S) (c : Nat) : Prop := (∀ p, p < 4 → 1 ≤ o.2.1 p ∧ o.2.1 p < 5) ∧ (∀ p q, p < 4 → q < 4 → o.2.1 p = o.2.1 q → p = q) ∧ (∀ p, p < c → ∃ n m, Iv (o.1 (o.2.1 p)) (fun x => o.1 9 (237 * p + x)) n m) ∧ ∀ r, 1 ≤ r → r < 5 → bz (o.1 r)
def Rel (o : wd_S) (n m c : Nat) : Prop := Iv (o.1 0) (o.1 8) n m ∧ o.1 5 0 = nI c ∧ o.1 12 0 = nI c ∧ c ≤ 4 ∧ Hs o c
section
variable {o : wd_S} {n m c : Nat}
theorem Rel.vs (R : Rel o n m c) : vs o n m c := ⟨R.1.1, R.1.2.1, R.2.1, R.2.2.2.1⟩
theorem Rel.mv (R : Rel o n m c) : mv o n m c := ⟨ag_cg R.1.2.2.1 R.1.1, R.2.2.1, R.2.2.2.1⟩
theorem Rel.same {o2 : wd_S} (R : Rel o n m c) (h : ∀ r, r < 6 ∨ r = 8 ∨ r = 9 → o2.1 r = o.1 r) (h12 : o2.1 12 0 = o.1 12 0) (hp : o2.2.1 = o.2.1) : Rel o2 n m c := by
  obtain ⟨a, b, d, e, f, g, k, z⟩ := R
  refine ⟨?_, ?_, h12.trans d, e, ?_, ?_, fun p hpc => ?_, fun r h1 h5 => by rw [h r (by omega)]; exact z r h1 h5⟩
  · rw [h 0 (by omega), h 8 (by omega)]; exact a
  · rw [h 5 (by omega)]; exact b
  · rw [hp]; exact f
  · rw [hp]; exact g
  · rw [hp, h 9 (by omega), h (o.2.1 p) (by have := f p (by omega); omega)]; exact k p hpc
theorem Rel.w (R : Rel o n m c) (k : Int32) : Rel (wd_w o 12 1 k) n m c := R.same (fun r hr => by rw [wd_w_row, row_ne _ _ (by omega)]) (by rw [wd_get, if_neg (by decide)]) rfl
theorem Rel.j (R : Rel o n m c) (x : Nat) (k : Int64) : Rel (wd_j o x k) n m c := R.same (fun r hr => rfl) rfl rfl
/-- what both make of a call that is saved first -/
def RS (o : wd_S) (c : Nat) (B N : Nat → Int32) (v : Int64) : wd_S := wd_row (mS (wd_j (wd_row (cs_sv o c) 0 B) 1 v) c) 8 N
theorem RS_lt {B N : Nat → Int32} {v : Int64} (hP : 1 ≤ o.2.1 c ∧ o.2.1 c < 5) (hc : c < 4) : (RS o c B N v).2.1 = o.2.1 ∧ (RS o c B N v).1 0 = B ∧ (RS o c B N v).1 8 = N ∧ (RS o c B N v).1 5 0 = nI (c + 1) ∧ (RS o c B N v).1 12 0 = nI (c + 1) ∧ (∀ r, 1 ≤ r → r < 5 → r ≠ o.2.1 c → (RS o c B N v).1 r = o.1 r) ∧ (RS o c B N v).1 (o.2.1 c) = cpr (o.1 (o.2.1 c)) (o.1 0) ∧ (RS o c B N v).1 9 = sg (o.1 9) (o.1 8) (237 * c) 0 ∧ (RS o c B N v).1 12 1 = 0 := by
  have a0 : ¬ o.2.1 c = 0 := by omega
  have a5 : ¬ o.2.1 c = 5 := by omega
  have a8 : ¬ o.2.1 c = 8 := by omega
  have a9 : ¬ o.2.1 c = 9 := by omega
  have a12 : ¬ o.2.1 c = 12 := by omega
  have b8 : ¬ 8 = o.2.1 c := by omega
  have b9 : ¬ 9 = o.2.1 c := by omega
  refine ⟨?_, ?_, ?_, ?_, ?_, fun r h1 h2 h3 => ?_, ?_, ?_, ?_⟩
  · simp [RS, mS, ms_sv, ms_save, cs_sv, cs_save, hc, wd_w, wd_row, wd_j]
  · funext x; simp [RS, mS, ms_sv, ms_save, cs_sv, cs_save, hc, wd_w, wd_row, wd_j]
  · funext x; simp [RS, mS, ms_sv, ms_save, cs_sv, cs_save, hc, wd_w, wd_row, wd_j]
  · simp [RS, mS, ms_sv, ms_save, cs_sv, cs_save, hc, wd_w, wd_row, wd_j]
  · simp [RS, mS, ms_sv, ms_save, cs_sv, cs_save, hc, wd_w, wd_row, wd_j]
  · have c0 : ¬ r = 0 := by omega
    have c5 : ¬ r = 5 := by omega
    have c8 : ¬ r = 8 := by omega
    have c9 : ¬ r = 9 := by omega
    have c12 : ¬ r = 12 := by omega
    funext x; simp [RS, mS, ms_sv, ms_save, cs_sv, cs_save, hc, wd_w, wd_row, wd_j, c0, c5, c8, c9, c12, h3]
  · funext x; simp [RS, mS, ms_sv, ms_save, cs_sv, cs_save, hc, wd_w, wd_row, wd_j, a0, a5, a8, a9, a12]
  · funext x; simp [RS, mS, ms_sv, ms_save, cs_sv, cs_save, hc, wd_w, wd_row, wd_j, b8, b9]
  · simp [RS, mS, ms_sv, ms_save, cs_sv, cs_save, hc, wd_w, wd_row, wd_j]
theorem RS_4 {B N : Nat → Int32} {v : Int64} (hP : 1 ≤ o.2.1 0 ∧ o.2.1 0 < 5) : (RS o 4 B N v).2.1 = rot o.2.1 ∧ (RS o 4 B N v).1 0 = B ∧ (RS o 4 B N v).1 8 = N ∧ (RS o 4 B N v).1 5 0 = nI 4 ∧ (RS o 4 B N v).1 12 0 = nI 4 ∧ (∀ r, 1 ≤ r → r < 5 → r ≠ o.2.1 0 → (RS o 4 B N v).1 r = o.1 r) ∧ (RS o 4 B N v).1 (o.2.1 0) = cpr (o.1 (o.2.1 0)) (o.1 0) ∧ (RS o 4 B N v).1 9 = sg (sh (o.1 9) 0) (o.1 8) 711 0 ∧ (RS o 4 B N v).1 12 1 = 0 := by
  have a0 : ¬ o.2.1 0 = 0 := by omega
  have a5 : ¬ o.2.1 0 = 5 := by omega
  have a8 : ¬ o.2.1 0 = 8 := by omega
  have a9 : ¬ o.2.1 0 = 9 := by omega
  have a12 : ¬ o.2.1 0 = 12 := by omega
  have b8 : ¬ 8 = o.2.1 0 := by omega
  have b9 : ¬ 9 = o.2.1 0 := by omega
  have b0 : ¬ 0 = o.2.1 0 := by omega
  have r3 : rot o.2.1 3 = o.2.1 0 := by simp [rot]
  have n4 : nI (3 + 1) = nI 4 := rfl
  refine ⟨?_, ?_, ?_, ?_, ?_, fun r h1 h2 h3 => ?_, ?_, ?_, ?_⟩
  · simp [RS, mS, ms_sv, ms_save, ms_drop, cs_sv, cs_save, cs_drop, wd_pi, wd_w, wd_row, wd_j]
  · funext x; simp [RS, mS, ms_sv, ms_save, ms_drop, cs_sv, cs_save, cs_drop, wd_pi, wd_w, wd_row, wd_j]
  · funext x; simp [RS, mS, ms_sv, ms_save, ms_drop, cs_sv, cs_save, cs_drop, wd_pi, wd_w, wd_row, wd_j]
  · simp [RS, mS, ms_sv, ms_save, ms_drop, cs_sv, cs_save, cs_drop, wd_pi, wd_w, wd_row, wd_j]
  · simp [RS, mS, ms_sv, ms_save, ms_drop, cs_sv, cs_save, cs_drop, wd_pi, wd_w, wd_row, wd_j]
  · have c0 : ¬ r = 0 := by omega
    have c5 : ¬ r = 5 := by omega
    have c8 : ¬ r = 8 := by omega
    have c9 : ¬ r = 9 := by omega
    have c12 : ¬ r = 12 := by omega
    funext x; simp [RS, mS, ms_sv, ms_save, ms_drop, cs_sv, cs_save, cs_drop, wd_pi, wd_w, wd_row, wd_j, c0, c5, c8, c9, c12, h3, r3]
  · funext x; simp [RS, mS, ms_sv, ms_save, ms_drop, cs_sv, cs_save, cs_drop, wd_pi, wd_w, wd_row, wd_j, a0, a5, a8, a9, a12, r3]
  · funext x; simp [RS, mS, ms_sv, ms_save, ms_drop, cs_sv, cs_save, cs_drop, wd_pi, wd_w, wd_row, wd_j, b8, b9, r3]
  · simp [RS, mS, ms_sv, ms_save, ms_drop, cs_sv, cs_save, cs_drop, wd_pi, wd_w, wd_row, wd_j]
theorem Rel_save {n2 m2 : Nat} {B N : Nat → Int32} {v : Int64} (R : Rel o n m c) (I : Iv B N n2 m2) : ∃ c2, Rel (RS o c B N v) n2 m2 c2 := by
  obtain ⟨a, b, d, e, f, g, k, z⟩ := R
  by_cases hc : c < 4
  · obtain ⟨q1, q2, q3, q4, q5, q6, q7, q8, q9⟩ := RS_lt (B := B) (N := N) (v := v) (f c hc) hc
    refine ⟨c + 1, ?_, q4, q5, by omega, ?_, ?_, fun p hp => ?_, fun r h1 h5 => ?_⟩
    · rw [q2, q3]; exact I
    · rw [q1]; exact f
    · rw [q1]; exact g
    · rw [q1, q8]
      by_cases hpc : p = c
      · subst hpc
        refine ⟨n, m, ?_⟩
        rw [q7]
        refine Iv_cpr a (z _ (f p hc).1 (f p hc).2) (fun x hx => ?_)
        unfold sg; rw [if_pos (by omega), show 237 * p + x - 237 * p = x by omega]
      · have hne : o.2.1 p ≠ o.2.1 c := fun z => hpc (g p c (by omega) hc z)
        rw [q6 _ (f p (by omega)).1 (f p (by omega)).2 hne]
        obtain ⟨n', m', I'⟩ := k p (by omega)
        refine ⟨n', m', Iv_cong I' (fun x hx => rfl) (fun x hx => ?_)⟩
        unfold sg
        rw [if_neg (by omega)]
    · by_cases hr : r = o.2.1 c
      · rw [hr, q7]; exact bz_cpr (z _ (f c hc).1 (f c hc).2) a.2.1
      · rw [q6 r h1 h5 hr]; exact z r h1 h5
  · have hc4 : c = 4 := by omega
    subst hc4
    obtain ⟨q1, q2, q3, q4, q5, q6, q7, q8, q9⟩ := RS_4 (B := B) (N := N) (v := v) (f 0 (by decide))
    have rv : ∀ p, p < 4 → rot o.2.1 p = o.2.1 (if p = 3 then 0 else p + 1) := fun p hp => by
      have : p = 0 ∨ p = 1 ∨ p = 2 ∨ p = 3 := by omega
      rcases this with h | h | h | h <;> subst h <;> simp [rot]
    have ri : ∀ p, p < 4 → (if p = 3 then 0 else p + 1) < 4 := fun p hp => by split <;> omega
    refine ⟨4, ?_, q4, q5, by omega, ?_, ?_, fun p hp => ?_, fun r h1 h5 => ?_⟩
    · rw [q2, q3]; exact I
    · rw [q1]; intro p hp; rw [rv p hp]; exact f _ (ri p hp)
    · rw [q1]; intro p q hp hq h; rw [rv p hp, rv q hq] at h
      have := g _ _ (ri p hp) (ri q hq) h
      split at this <;> split at this <;> omega
    · rw [q1, q8, rv p hp]
      by_cases hp3 : p = 3
      · subst hp3
        refine ⟨n, m, ?_⟩
        rw [if_pos rfl, q7]
        refine Iv_cpr a (z _ (f 0 (by decide)).1 (f 0 (by decide)).2) (fun x hx => ?_)
        unfold sg; rw [if_pos (by omega), show 237 * 3 + x - 711 = x by omega]
      · rw [if_neg hp3]
        have hne : o.2.1 (p + 1) ≠ o.2.1 0 := fun z => absurd (g (p + 1) 0 (by omega) (by omega) z) (by omega)
        rw [q6 _ (f (p + 1) (by omega)).1 (f (p + 1) (by omega)).2 hne]
        obtain ⟨n', m', I'⟩ := k (p + 1) (by omega)
        refine ⟨n', m', Iv_cong I' (fun x hx => rfl) (fun x hx => ?_)⟩
        unfold sg sh
        rw [if_neg (by omega), if_pos (by omega), show 237 * p + x + 237 = 237 * (p + 1) + x by omega]
    · by_cases hr : r = o.2.1 0
      · rw [hr, q7]; exact bz_cpr (z _ (f 0 (by decide)).1 (f 0 (by decide)).2) a.2.1
      · rw [q6 r h1 h5 hr]; exact z r h1 h5
theorem RS_9 {B N : Nat → Int32} {v : Int64} (R : Rel o n m c) : (RS o c B N v).1 12 1 = 0 := by
  obtain ⟨a, b, d, e, f, g, k⟩ := R
  by_cases hc : c < 4
  · exact (RS_lt (f c hc) hc).2.2.2.2.2.2.2.2
  · have hc4 : c = 4 := by omega
    subst hc4
    exact (RS_4 (f 0 (by decide))).2.2.2.2.2.2.2.2
/-- the class's saving leaves the reference's rows -/
theorem csv_hi (R : Rel o n m c) {r : Nat} (h : 6 ≤ r) (B : Nat → Int32) (v : Int64) : (wd_j (wd_row (cs_sv o c) 0 B) 1 v).1 r = o.1 r := by
  obtain ⟨a, b, d, e, f, g, k⟩ := R
  show (wd_row (cs_sv o c) 0 B).1 r = o.1 r
  rw [row_ne _ _ (by omega)]
  by_cases hc : c < 4
  · have := f c hc
    unfold cs_sv cs_save
    rw [if_pos hc, wd_w_row, row_ne _ _ (by omega), row_ne _ _ (by omega)]
  · have := f 0 (by decide)
    have r3 : (cs_drop o).2.1 3 = o.2.1 0 := by simp [cs_drop, wd_pi, wd_w, rot]
    unfold cs_sv cs_save
    rw [if_neg hc, wd_w_row, row_ne _ _ (by omega), row_ne _ _ (by omega)]
    unfold cs_drop
    rw [wd_w_row, row_ne _ _ (by omega)]; rfl
theorem sv_mv (R : Rel o n m c) (B : Nat → Int32) (v : Int64) : mv (wd_j (wd_row (cs_sv o c) 0 B) 1 v) n m c := by
  unfold mv
  rw [csv_hi R (by decide), csv_hi R (by decide)]
  exact R.mv
/-- back to the state that was saved last -/
theorem Rel_undo (R : Rel o n m (c + 1)) : ∃ n2 m2, Rel (wd_row (wd_w (wd_w (wd_j (cs_restore o c) 1 (nI c).toInt64) 12 1 0) 12 0 (nI c)) 8 (cp ((wd_j (cs_restore o c) 1 (nI c).toInt64).1 8) (fun x => (wd_j (cs_restore o c) 1 (nI c).toInt64).1 9 (237 * c + x)) 0 237)) n2 m2 c := by
  obtain ⟨a, b, d, e, f, g, k, z⟩ := R
  obtain ⟨n2, m2, I⟩ := k c (by omega)
  have hP := f c (by omega)
  have e0 : (cs_restore o c).1 0 = cpr (o.1 0) (o.1 (o.2.1 c)) := by unfold cs_restore; rw [row_self]
  have er : ∀ r, r ≠ 0 → r ≠ 5 → (cs_restore o c).1 r = o.1 r := fun r h0 h5 => by unfold cs_restore; rw [row_ne _ _ h0, wd_w_row, row_ne _ _ h5]
  have e5 : (cs_restore o c).1 5 0 = nI c := by unfold cs_restore; rw [row_ne _ _ (by decide), wd_get, if_pos ⟨rfl, rfl⟩]
  refine ⟨n2, m2, ?_, ?_, ?_, by omega, f, g, fun p hp => ?_, fun r h1 h5 => ?_⟩
  · rw [row_self, row_ne _ _ (by decide), wd_w_row, row_ne _ _ (by decide), wd_w_row, row_ne _ _ (by decide)]
    show Iv ((cs_restore o c).1 0) (cp ((cs_restore o c).1 8) (fun x => (cs_restore o c).1 9 (237 * c + x)) 0 237) n2 m2
    rw [e0, er 9 (by decide) (by decide)]
    refine Iv_cpr I a.2.1 (fun x hx => ?_)
    unfold cp; rw [if_pos ⟨Nat.zero_le x, hx⟩]
  · rw [row_ne _ _ (by decide), wd_w_row, row_ne _ _ (by decide), wd_w_row, row_ne _ _ (by decide)]
    exact e5
  · rw [row_ne _ _ (by decide), wd_get, if_pos ⟨rfl, rfl⟩]
  · obtain ⟨n', m', I'⟩ := k p (by omega)
    have hp4 := f p (by omega)
    refine ⟨n', m', ?_⟩
    show Iv ((wd_row (wd_w (wd_w (wd_j (cs_restore o c) 1 (nI c).toInt64) 12 1 0) 12 0 (nI c)) 8 (cp ((wd_j (cs_restore o c) 1 (nI c).toInt64).1 8) (fun x => (wd_j (cs_restore o c) 1 (nI c).toInt64).1 9 (237 * c + x)) 0 237)).1 (o.2.1 p)) (fun x => (wd_row (wd_w (wd_w (wd_j (cs_restore o c) 1 (nI c).toInt64) 12 1 0) 12 0 (nI c)) 8 (cp ((wd_j (cs_restore o c) 1 (nI c).toInt64).1 8) (fun x => (wd_j (cs_restore o c) 1 (nI c).toInt64).1 9 (237 * c + x)) 0 237)).1 9 (237 * p + x)) n' m'
    rw [row_ne _ _ (by omega), row_ne _ _ (by decide), wd_w_row, row_ne _ _ (by omega), row_ne _ _ (by decide), wd_w_row, row_ne _ _ (by omega), row_ne _ _ (by decide)]
    show Iv ((cs_restore o c).1 (o.2.1 p)) (fun x => (cs_restore o c).1 9 (237 * p + x)) n' m'
    rw [er _ (by omega) (by omega), er 9 (by decide) (by decide)]
    exact I'
  · rw [row_ne _ _ (by omega), wd_w_row, row_ne _ _ (by omega), wd_w_row, row_ne _ _ (by omega)]
    show bz ((cs_restore o c).1 r)
    rw [er r (by omega) (by omega)]
    exact z r h1 h5
end
