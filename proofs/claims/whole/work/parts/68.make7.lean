/-! the law's beginning: the world is made -/
theorem PI.keep {h h2 : mm_H} {a e y q z qa qb : Nat} {F : Nat → Nat → Nat → Nat} (X : PI h a F e y q z qa qb) (K : ∀ b, mm_k h b ≠ 0 → eqa h h2 b) : PI h2 a F e y q z qa qb := by
  obtain ⟨⟨a1, a2, a3, a4, a5⟩, ⟨e1, e2⟩, ⟨y1, y2, y3, y4, y5, y6⟩, s, i, ⟨z1, z2, z3, z4, z5⟩, f, g⟩ := X
  have Ka := K a (by rw [a1]; decide)
  have Ke := K e (by rw [e1]; decide)
  have Ky := K y (by rw [y1]; decide)
  have Kq := K q (by rw [y4]; decide)
  have Kz := K z (by rw [z1]; decide)
  refine ⟨⟨Ka.1.trans a1, (Ka.2.2.2.2 0).trans a2, (Ka.2.2.2.2 1).trans a3, (Ka.2.2.2.2 2).trans a4, (Ka.2.2.2.2 3).trans a5⟩, ⟨Ke.1.trans e1, (Ke.2.2.2.2 0).trans e2⟩, ⟨Ky.1.trans y1, (Ky.2.2.2.2 0).trans y2, (Ky.2.2.1 1).trans y3, Kq.1.trans y4, Kq.2.1.trans y5, fun p hp => (Kq.2.2.2.2 p).trans (y6 p hp)⟩, fun j hj => (s j hj).keep (fun t i v => K _ ((s j hj).k0 v)), i, ⟨Kz.1.trans z1, (Kz.2.2.2.2 0).trans z2, (Kz.2.2.2.2 1).trans z3, z4.keep (fun i hi => K _ (z4.k0 hi)), z5.keep (fun i hi => K _ (z5.k0 hi))⟩, f, g⟩
/-- the addresses of all things -/
def adW (F : Nat → Nat → Nat → Nat) (x e y q z qa qb m o : Nat) (r : Nat → Nat) : Nat → Nat → Nat → Nat := fun t j i =>
  if t < 7 then F j t i else if t = 7 then x else if t = 8 then e else if t = 9 then y else if t = 10 then q else if t = 11 then z else if t = 12 then (if i = 0 then qa else qb) else if t = 13 then (if j = 0 then qa + 1 + i else qb + 1 + i) else if t = 14 then m else if t = 15 then r i else o
theorem wdv_lo {t j i : Nat} (v : wd_v t j i) (h : t < 7) : j < 5 ∧ tvp 5 16 t i := by unfold wd_v at v; unfold tvp; omega
theorem wdv_hi {t j i : Nat} (v : wd_v t j i) (h : ¬ t < 7) : (t = 7 ∧ j = 0 ∧ i = 0) ∨ (t = 8 ∧ j = 0 ∧ i = 0) ∨ (t = 9 ∧ j = 0 ∧ i = 0) ∨ (t = 10 ∧ j = 0 ∧ i = 0) ∨ (t = 11 ∧ j = 0 ∧ i = 0) ∨ (t = 12 ∧ j = 0 ∧ i = 0) ∨ (t = 12 ∧ j = 0 ∧ i = 1) ∨ (t = 13 ∧ j = 0 ∧ i < 13) ∨ (t = 13 ∧ j = 1 ∧ i < 13) ∨ (t = 14 ∧ j = 0 ∧ i = 0) ∨ (t = 15 ∧ j = 0 ∧ i < 4) ∨ (t = 16 ∧ j = 0 ∧ i = 0) := by
  rcases v with ⟨rfl, a, b⟩ | ⟨rfl, a, b⟩ | ⟨rfl, a, b⟩ | ⟨rfl, a, b⟩ | ⟨rfl, a, b⟩ | ⟨rfl, a, b⟩ | ⟨rfl, a, b⟩ | ⟨rfl, a, b⟩ | ⟨rfl, a, b⟩ | ⟨rfl, a, b⟩ | ⟨rfl, a, b⟩ | ⟨rfl, a, b⟩ | ⟨rfl, a, b⟩ | ⟨rfl, a, b⟩ | ⟨rfl, a, b⟩ | ⟨rfl, a, b⟩ | ⟨rfl, a, b⟩
  · exact absurd (by decide) h
  · exact absurd (by decide) h
  · exact absurd (by decide) h
  · exact absurd (by decide) h
  · exact absurd (by decide) h
  · exact absurd (by decide) h
  · exact absurd (by decide) h
  · exact Or.inl ⟨rfl, a, b⟩
  · exact Or.inr (Or.inl ⟨rfl, a, b⟩)
  · exact Or.inr (Or.inr (Or.inl ⟨rfl, a, b⟩))
  · exact Or.inr (Or.inr (Or.inr (Or.inl ⟨rfl, a, b⟩)))
  · exact Or.inr (Or.inr (Or.inr (Or.inr (Or.inl ⟨rfl, a, b⟩))))
  · rcases (show i = 0 ∨ i = 1 by omega) with c | c
    · exact Or.inr (Or.inr (Or.inr (Or.inr (Or.inr (Or.inl ⟨rfl, a, c⟩)))))
    · exact Or.inr (Or.inr (Or.inr (Or.inr (Or.inr (Or.inr (Or.inl ⟨rfl, a, c⟩))))))
  · rcases (show j = 0 ∨ j = 1 by omega) with c | c
    · exact Or.inr (Or.inr (Or.inr (Or.inr (Or.inr (Or.inr (Or.inr (Or.inl ⟨rfl, c, b⟩)))))))
    · exact Or.inr (Or.inr (Or.inr (Or.inr (Or.inr (Or.inr (Or.inr (Or.inr (Or.inl ⟨rfl, c, b⟩))))))))
  · exact Or.inr (Or.inr (Or.inr (Or.inr (Or.inr (Or.inr (Or.inr (Or.inr (Or.inr (Or.inl ⟨rfl, a, b⟩)))))))))
  · exact Or.inr (Or.inr (Or.inr (Or.inr (Or.inr (Or.inr (Or.inr (Or.inr (Or.inr (Or.inr (Or.inl ⟨rfl, a, b⟩))))))))))
  · exact Or.inr (Or.inr (Or.inr (Or.inr (Or.inr (Or.inr (Or.inr (Or.inr (Or.inr (Or.inr (Or.inr (⟨rfl, a, b⟩)))))))))))
theorem wdv_17 {t j i : Nat} (v : wd_v t j i) : t < 17 := by unfold wd_v at v; omega
theorem wdk_inj : ∀ t, t < 17 → ∀ t2, t2 < 17 → wd_k t = wd_k t2 → t = t2 ∨ wd_k t = 9 := by decide +kernel
theorem wdk_9 : ∀ t, t < 17 → wd_k t = 9 → t < 7 ∨ t = 13 ∨ t = 15 := by decide +kernel
theorem wdr_lo {pi : Nat → Nat} {t j i k : Nat} {q : Nat × Nat × Nat} (h : t < 7) (e : wd_r pi t j i k = some q) : wd_r (fun x => x) t 0 i k = some (q.1, 0, q.2.2) ∧ q.2.1 = j ∧ q.1 < 7 := by
  have ht : t = 0 ∨ t = 1 ∨ t = 2 ∨ t = 3 ∨ t = 4 ∨ t = 5 ∨ t = 6 := by omega
  rcases ht with rfl | rfl | rfl | rfl | rfl | rfl | rfl
  · by_cases a : k = 0
    · subst a; simp [wd_r] at e; subst e; simp [wd_r]
    · by_cases b : k = 1
      · subst b; simp [wd_r] at e; subst e; simp [wd_r]
      · by_cases c : k = 2
        · subst c; simp [wd_r] at e; subst e; simp [wd_r]
        · simp [wd_r, a, b, c] at e
  · simp [wd_r] at e; obtain ⟨rfl, rfl⟩ := e; simp [wd_r]
  · simp [wd_r] at e
  · simp [wd_r] at e
  · simp [wd_r] at e
  · simp [wd_r] at e; obtain ⟨hk, rfl⟩ := e; simp [wd_r, hk]
  · simp [wd_r] at e; obtain ⟨hk, rfl⟩ := e; simp [wd_r, hk]
theorem wdi_lo {t j i k : Nat} {q : Nat × Nat} (h : t < 7) (e : wd_i t j i k = some q) : wd_i t 0 i k = some (0, q.2) ∧ q.1 = j := by
  have ht : t = 0 ∨ t = 1 ∨ t = 2 ∨ t = 3 ∨ t = 4 ∨ t = 5 ∨ t = 6 := by omega
  rcases ht with rfl | rfl | rfl | rfl | rfl | rfl | rfl
  · by_cases a : k = 3
    · subst a; simp [wd_i] at e; subst e; simp [wd_i]
    · by_cases b : k = 4
      · subst b; simp [wd_i] at e; subst e; simp [wd_i]
      · by_cases c : k = 5
        · subst c; simp [wd_i] at e; subst e; simp [wd_i]
        · simp [wd_i, a, b, c] at e
  · simp [wd_i] at e; obtain ⟨hk, rfl⟩ := e; simp [wd_i, hk]
  · simp [wd_i] at e; obtain ⟨hk, rfl⟩ := e; simp [wd_i, hk]
  · simp [wd_i] at e; obtain ⟨hk, rfl⟩ := e; simp [wd_i, hk]
  · simp [wd_i] at e; obtain ⟨hk, rfl⟩ := e; simp [wd_i, hk]
  · simp [wd_i] at e
  · simp [wd_i] at e
section
variable {h : mm_H} {F : Nat → Nat → Nat → Nat} {x e y q z qa qb m o : Nat} {r : Nat → Nat}
theorem adW_lo {t j i : Nat} (ht : t < 7) : adW F x e y q z qa qb m o r t j i = F j t i := by unfold adW; rw [if_pos ht]
theorem world_0 (X : PI h x F e y q z qa qb) (Y : mm_k h m = 8 ∧ mm_p h m 0 = some (r 0) ∧ mm_p h m 1 = some (r 1) ∧ mm_p h m 4 = some (r 2) ∧ mm_p h m 5 = some (r 3) ∧ (∀ k, mm_i h m k = 0) ∧ (∀ k, mm_j h m k = 0)) (R : ∀ i, i < 4 → mm_k h (r i) = 9 ∧ mm_n h (r i) = wd_n 15 i) (R0 : ∀ k, mm_i h (r 0) k = NF k) (R1 : ∀ i, 1 ≤ i → i < 4 → ∀ k, mm_i h (r i) k = 0) (RI : ∀ i j, i < 4 → j < 4 → r i = r j → i = j) (RF : ∀ i, i < 4 → (∀ j t i2, j < 5 → tvp 5 16 t i2 → F j t i2 ≠ r i) ∧ ∀ k, k ≤ 13 → qa + k ≠ r i ∧ qb + k ≠ r i) (O : mm_k h o = 10 ∧ mm_n h o = 1 ∧ mm_j h o 0 = 0) : wd_P (adW F x e y q z qa qb m o r) h oF := by
  obtain ⟨⟨a1, a2, a3, a4, a5⟩, ⟨e1, e2⟩, ⟨y1, y2, y3, y4, y5, y6⟩, s, ij, ⟨z1, z2, z3, z4, z5⟩, f, g⟩ := X
  obtain ⟨m1, m2, m3, m4, m5, m6, m7⟩ := Y
  have KD : ∀ t j i, wd_v t j i → mm_k h (adW F x e y q z qa qb m o r t j i) = wd_k t := fun t j i v => by
    by_cases ht : t < 7
    · rw [adW_lo ht]; exact (s j (wdv_lo v ht).1).2.1 t i (wdv_lo v ht).2
    · rcases wdv_hi v ht with ⟨rfl, rfl, rfl⟩ | ⟨rfl, rfl, rfl⟩ | ⟨rfl, rfl, rfl⟩ | ⟨rfl, rfl, rfl⟩ | ⟨rfl, rfl, rfl⟩ | ⟨rfl, rfl, rfl⟩ | ⟨rfl, rfl, rfl⟩ | ⟨rfl, rfl, hi⟩ | ⟨rfl, rfl, hi⟩ | ⟨rfl, rfl, rfl⟩ | ⟨rfl, rfl, hi⟩ | ⟨rfl, rfl, rfl⟩
      · exact a1
      · exact e1
      · exact y1
      · exact y4
      · exact z1
      · exact z4.1
      · exact z5.1
      · exact (z4.2.2 i hi).2.1
      · exact (z5.2.2 i hi).2.1
      · exact m1
      · exact (R i hi).1
      · exact O.1
  refine ⟨fun t j i t2 j2 i2 v v2 w => ?_, KD, fun t j i v hk => ?_, fun t j i k p v w => ?_, fun t j i k p v w => ?_, ⟨fun j i v => ?_, fun j i v => ?_⟩, ⟨m7 6, O.2.2⟩, fun p hp => ⟨by show 1 ≤ p + 1; omega, by show p + 1 < 5; omega⟩⟩
  · have hk : wd_k t = wd_k t2 := by rw [← KD t j i v, ← KD t2 j2 i2 v2, w]
    have hc := wdk_inj t (wdv_17 v) t2 (wdv_17 v2) hk
    by_cases ht : t < 7
    · by_cases ht2 : t2 < 7
      · rw [adW_lo ht, adW_lo ht2] at w
        have hj := ij _ _ _ _ _ _ (wdv_lo v ht).1 (wdv_lo v2 ht2).1 (wdv_lo v ht).2 (wdv_lo v2 ht2).2 w
        subst hj
        have := (s j (wdv_lo v ht).1).1 _ _ _ _ (wdv_lo v ht).2 (wdv_lo v2 ht2).2 w
        exact ⟨this.1, rfl, this.2⟩
      · exfalso
        have h9 : wd_k t2 = 9 := by rcases hc with c | c; omega; rw [← hk]; exact c
        have := wdk_9 t2 (wdv_17 v2) h9
        rw [adW_lo ht] at w
        obtain ⟨vj, vt⟩ := wdv_lo v ht
        rcases wdv_hi v2 ht2 with ⟨rfl, rfl, hi⟩ | ⟨rfl, rfl, hi⟩ | ⟨rfl, rfl, hi⟩ | ⟨rfl, rfl, hi⟩ | ⟨rfl, rfl, hi⟩ | ⟨rfl, rfl, hi⟩ | ⟨rfl, rfl, hi⟩ | ⟨rfl, rfl, hi⟩ | ⟨rfl, rfl, hi⟩ | ⟨rfl, rfl, hi⟩ | ⟨rfl, rfl, hi⟩ | ⟨rfl, rfl, hi⟩ <;> try omega
        · exact (g j t i (1 + i2) vj vt (by omega)).1 (by rw [w]; show qa + 1 + i2 = _; omega)
        · exact (g j t i (1 + i2) vj vt (by omega)).2 (by rw [w]; show qb + 1 + i2 = _; omega)
        · exact (RF i2 hi).1 j t i vj vt w
    · by_cases ht2 : t2 < 7
      · exfalso
        have h9 : wd_k t = 9 := by rcases hc with c | c; omega; exact c
        have := wdk_9 t (wdv_17 v) h9
        rw [adW_lo ht2] at w
        obtain ⟨vj, vt⟩ := wdv_lo v2 ht2
        rcases wdv_hi v ht with ⟨rfl, rfl, hi⟩ | ⟨rfl, rfl, hi⟩ | ⟨rfl, rfl, hi⟩ | ⟨rfl, rfl, hi⟩ | ⟨rfl, rfl, hi⟩ | ⟨rfl, rfl, hi⟩ | ⟨rfl, rfl, hi⟩ | ⟨rfl, rfl, hi⟩ | ⟨rfl, rfl, hi⟩ | ⟨rfl, rfl, hi⟩ | ⟨rfl, rfl, hi⟩ | ⟨rfl, rfl, hi⟩ <;> try omega
        · exact (g j2 t2 i2 (1 + i) vj vt (by omega)).1 (by rw [← w]; show qa + 1 + i = _; omega)
        · exact (g j2 t2 i2 (1 + i) vj vt (by omega)).2 (by rw [← w]; show qb + 1 + i = _; omega)
        · exact (RF i hi).1 j2 t2 i2 vj vt w.symm
      · by_cases htt : t = t2
        · subst htt
          rcases wdv_hi v ht with ⟨c1, c2, c3⟩ | ⟨c1, c2, c3⟩ | ⟨c1, c2, c3⟩ | ⟨c1, c2, c3⟩ | ⟨c1, c2, c3⟩ | ⟨c1, c2, c3⟩ | ⟨c1, c2, c3⟩ | ⟨c1, c2, c3⟩ | ⟨c1, c2, c3⟩ | ⟨c1, c2, c3⟩ | ⟨c1, c2, c3⟩ | ⟨c1, c2, c3⟩ <;> rcases wdv_hi v2 ht2 with ⟨d1, d2, d3⟩ | ⟨d1, d2, d3⟩ | ⟨d1, d2, d3⟩ | ⟨d1, d2, d3⟩ | ⟨d1, d2, d3⟩ | ⟨d1, d2, d3⟩ | ⟨d1, d2, d3⟩ | ⟨d1, d2, d3⟩ | ⟨d1, d2, d3⟩ | ⟨d1, d2, d3⟩ | ⟨d1, d2, d3⟩ | ⟨d1, d2, d3⟩ <;> try omega
          · subst c1 c2 c3 d2 d3
            exact absurd w (f 0 0 (by omega) (by omega))
          · subst c1 c2 c3 d2 d3
            exact absurd w.symm (f 0 0 (by omega) (by omega))
          · subst c1 c2 d2
            have w : qa + 1 + i = qa + 1 + i2 := w
            omega
          · subst c1 c2 d2
            have w : qa + 1 + i = qb + 1 + i2 := w
            exact absurd (show qa + (1 + i) = qb + (1 + i2) by omega) (f (1 + i) (1 + i2) (by omega) (by omega))
          · subst c1 c2 d2
            have w : qb + 1 + i = qa + 1 + i2 := w
            exact absurd (show qa + (1 + i2) = qb + (1 + i) by omega) (f (1 + i2) (1 + i) (by omega) (by omega))
          · subst c1 c2 d2
            have w : qb + 1 + i = qb + 1 + i2 := w
            omega
          · subst c1 c2 d2
            exact ⟨rfl, rfl, RI i i2 c3 d3 w⟩
        · exfalso
          have h9 : wd_k t = 9 := by rcases hc with c | c; exact absurd c htt; exact c
          have q1 := wdk_9 t (wdv_17 v) h9
          have q2 := wdk_9 t2 (wdv_17 v2) (by rw [← hk]; exact h9)
          rcases wdv_hi v ht with ⟨c1, c2, c3⟩ | ⟨c1, c2, c3⟩ | ⟨c1, c2, c3⟩ | ⟨c1, c2, c3⟩ | ⟨c1, c2, c3⟩ | ⟨c1, c2, c3⟩ | ⟨c1, c2, c3⟩ | ⟨c1, c2, c3⟩ | ⟨c1, c2, c3⟩ | ⟨c1, c2, c3⟩ | ⟨c1, c2, c3⟩ | ⟨c1, c2, c3⟩ <;> try omega
          · rcases wdv_hi v2 ht2 with ⟨d1, d2, d3⟩ | ⟨d1, d2, d3⟩ | ⟨d1, d2, d3⟩ | ⟨d1, d2, d3⟩ | ⟨d1, d2, d3⟩ | ⟨d1, d2, d3⟩ | ⟨d1, d2, d3⟩ | ⟨d1, d2, d3⟩ | ⟨d1, d2, d3⟩ | ⟨d1, d2, d3⟩ | ⟨d1, d2, d3⟩ | ⟨d1, d2, d3⟩ <;> try omega
            subst c1 c2 d1 d2
            have w : qa + 1 + i = r i2 := w
            exact ((RF i2 d3).2 (1 + i) (by omega)).1 (by omega)
          · rcases wdv_hi v2 ht2 with ⟨d1, d2, d3⟩ | ⟨d1, d2, d3⟩ | ⟨d1, d2, d3⟩ | ⟨d1, d2, d3⟩ | ⟨d1, d2, d3⟩ | ⟨d1, d2, d3⟩ | ⟨d1, d2, d3⟩ | ⟨d1, d2, d3⟩ | ⟨d1, d2, d3⟩ | ⟨d1, d2, d3⟩ | ⟨d1, d2, d3⟩ | ⟨d1, d2, d3⟩ <;> try omega
            subst c1 c2 d1 d2
            have w : qb + 1 + i = r i2 := w
            exact ((RF i2 d3).2 (1 + i) (by omega)).2 (by omega)
          · rcases wdv_hi v2 ht2 with ⟨d1, d2, d3⟩ | ⟨d1, d2, d3⟩ | ⟨d1, d2, d3⟩ | ⟨d1, d2, d3⟩ | ⟨d1, d2, d3⟩ | ⟨d1, d2, d3⟩ | ⟨d1, d2, d3⟩ | ⟨d1, d2, d3⟩ | ⟨d1, d2, d3⟩ | ⟨d1, d2, d3⟩ | ⟨d1, d2, d3⟩ | ⟨d1, d2, d3⟩ <;> try omega
            · subst c1 c2 d1 d2
              have w : r i = qa + 1 + i2 := w
              exact ((RF i c3).2 (1 + i2) (by omega)).1 (by omega)
            · subst c1 c2 d1 d2
              have w : r i = qb + 1 + i2 := w
              exact ((RF i c3).2 (1 + i2) (by omega)).2 (by omega)
  · by_cases ht : t < 7
    · rw [adW_lo ht]; exact (s j (wdv_lo v ht).1).2.2.1 t i (wdv_lo v ht).2 hk
    · rcases wdv_hi v ht with ⟨rfl, rfl, rfl⟩ | ⟨rfl, rfl, rfl⟩ | ⟨rfl, rfl, rfl⟩ | ⟨rfl, rfl, rfl⟩ | ⟨rfl, rfl, rfl⟩ | ⟨rfl, rfl, rfl⟩ | ⟨rfl, rfl, rfl⟩ | ⟨rfl, rfl, hi⟩ | ⟨rfl, rfl, hi⟩ | ⟨rfl, rfl, rfl⟩ | ⟨rfl, rfl, hi⟩ | ⟨rfl, rfl, rfl⟩
      · exact absurd hk (by decide)
      · exact absurd hk (by decide)
      · exact absurd hk (by decide)
      · exact y5
      · exact absurd hk (by decide)
      · exact z4.2.1
      · exact z5.2.1
      · exact (z4.2.2 i hi).2.2.1
      · exact (z5.2.2 i hi).2.2.1
      · exact absurd hk (by decide)
      · exact (R i hi).2
      · exact O.2.1
  · by_cases ht : t < 7
    · obtain ⟨w1, w2, w3⟩ := wdr_lo ht w
      obtain ⟨vj, vt⟩ := wdv_lo v ht
      rw [adW_lo ht, adW_lo w3, w2]
      refine (s j vj).2.2.2.1 t i k (p.1, 0, p.2.2) vt w1 (fun z => ?_) (fun z => ?_)
      · subst z; simp [wd_r] at w; exact w.1
      · subst z; simp [wd_r] at w; exact w.1
    · rcases wdv_hi v ht with ⟨rfl, rfl, rfl⟩ | ⟨rfl, rfl, rfl⟩ | ⟨rfl, rfl, rfl⟩ | ⟨rfl, rfl, rfl⟩ | ⟨rfl, rfl, rfl⟩ | ⟨rfl, rfl, rfl⟩ | ⟨rfl, rfl, rfl⟩ | ⟨rfl, rfl, hi⟩ | ⟨rfl, rfl, hi⟩ | ⟨rfl, rfl, rfl⟩ | ⟨rfl, rfl, hi⟩ | ⟨rfl, rfl, rfl⟩
      · by_cases k0 : k = 0
        · subst k0; simp [wd_r] at w; subst w; exact a2
        · by_cases k1 : k = 1
          · subst k1; simp [wd_r] at w; subst w; exact a3
          · by_cases k2 : k = 2
            · subst k2; simp [wd_r] at w; subst w; exact a4
            · by_cases k3 : k = 3
              · subst k3; simp [wd_r] at w; subst w; exact a5
              · simp [wd_r, k0, k1, k2, k3] at w
      · simp [wd_r] at w; obtain ⟨rfl, rfl⟩ := w; exact e2
      · simp [wd_r] at w; obtain ⟨rfl, rfl⟩ := w; exact y2
      · simp [wd_r] at w; obtain ⟨hk, rfl⟩ := w; exact y6 k hk
      · by_cases k0 : k = 0
        · subst k0; simp [wd_r] at w; subst w; exact z2
        · by_cases k1 : k = 1
          · subst k1; simp [wd_r] at w; subst w; exact z3
          · simp [wd_r, k0, k1] at w
      · simp [wd_r] at w; obtain ⟨hk, rfl⟩ := w; exact (z4.2.2 k hk).1
      · simp [wd_r] at w; obtain ⟨hk, rfl⟩ := w; exact (z5.2.2 k hk).1
      · simp [wd_r] at w
      · simp [wd_r] at w
      · by_cases k0 : k = 0
        · subst k0; simp [wd_r] at w; subst w; exact m2
        · by_cases k1 : k = 1
          · subst k1; simp [wd_r] at w; subst w; exact m3
          · by_cases k2 : k = 4
            · subst k2; simp [wd_r] at w; subst w; exact m4
            · by_cases k3 : k = 5
              · subst k3; simp [wd_r] at w; subst w; exact m5
              · simp [wd_r, k0, k1, k2, k3] at w
      · simp [wd_r] at w
      · simp [wd_r] at w
  · by_cases ht : t < 7
    · obtain ⟨w1, w2⟩ := wdi_lo ht w
      obtain ⟨vj, vt⟩ := wdv_lo v ht
      rw [adW_lo ht, (s j vj).2.2.2.2.1 t i k _ vt w1, w2]
      show B0 p.2 = (if j < 5 then B0 else if j = 8 then NF else fun _ => 0) p.2
      rw [if_pos vj]
    · rcases wdv_hi v ht with ⟨rfl, rfl, rfl⟩ | ⟨rfl, rfl, rfl⟩ | ⟨rfl, rfl, rfl⟩ | ⟨rfl, rfl, rfl⟩ | ⟨rfl, rfl, rfl⟩ | ⟨rfl, rfl, rfl⟩ | ⟨rfl, rfl, rfl⟩ | ⟨rfl, rfl, hi⟩ | ⟨rfl, rfl, hi⟩ | ⟨rfl, rfl, rfl⟩ | ⟨rfl, rfl, hi⟩ | ⟨rfl, rfl, rfl⟩
      · simp [wd_i] at w
      · simp [wd_i] at w
      · simp [wd_i] at w; obtain ⟨rfl, rfl⟩ := w; exact y3
      · simp [wd_i] at w
      · simp [wd_i] at w
      · simp [wd_i] at w
      · simp [wd_i] at w
      · simp [wd_i] at w; obtain ⟨hk, rfl⟩ := w; exact (z4.2.2 i hi).2.2.2 k
      · simp [wd_i] at w; obtain ⟨hk, rfl⟩ := w; exact (z5.2.2 i hi).2.2.2 k
      · by_cases k0 : k = 2
        · subst k0; simp [wd_i] at w; subst w; exact m6 2
        · by_cases k1 : k = 3
          · subst k1; simp [wd_i] at w; subst w; exact m6 3
          · simp [wd_i, k0, k1] at w
      · simp [wd_i] at w; obtain ⟨hk, rfl⟩ := w
        show mm_i h (r i) k = (if 8 + i < 5 then B0 else if 8 + i = 8 then NF else fun _ => 0) k
        rw [if_neg (by omega)]
        by_cases i0 : i = 0
        · subst i0; rw [if_pos rfl]; exact R0 k
        · rw [if_neg (by omega)]; exact R1 i (by omega) hi k
      · simp [wd_i] at w
  · rw [adW_lo (by decide)]; exact (s j (wdv_lo v (by decide)).1).2.2.2.2.2.1 i (by unfold wd_v at v; omega)
  · rw [adW_lo (by decide)]; exact (s j (wdv_lo v (by decide)).1).2.2.2.2.2.2 i (by unfold wd_v at v; omega)
end
