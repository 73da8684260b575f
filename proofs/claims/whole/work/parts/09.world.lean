/-! THE WORLD: labels (t, j, i) of all things that the law keeps, their addresses ad, and rows of ints that say what they hold -/
/-- labels: 0 State j; 1 Loop i of State j; 2 its risks; 3 Subscriber i of State j; 4 counts; 5 loopRow; 6 subscriberRow; 7 PartyLines; 8 Exchange; 9 History; 10 its states; 11 SpanTests; 12 its two tables; 13 their rows; 14 the model; 15 its four rows; 16 the law's out -/
def wd_v (t j i : Nat) : Prop := (t = 0 ∧ j < 5 ∧ i = 0) ∨ (t = 1 ∧ j < 5 ∧ i < 5) ∨ (t = 2 ∧ j < 5 ∧ i < 5) ∨ (t = 3 ∧ j < 5 ∧ i < 16) ∨ (t = 4 ∧ j < 5 ∧ i = 0) ∨ (t = 5 ∧ j < 5 ∧ i = 0) ∨ (t = 6 ∧ j < 5 ∧ i = 0) ∨ (t = 7 ∧ j = 0 ∧ i = 0) ∨ (t = 8 ∧ j = 0 ∧ i = 0) ∨ (t = 9 ∧ j = 0 ∧ i = 0) ∨ (t = 10 ∧ j = 0 ∧ i = 0) ∨ (t = 11 ∧ j = 0 ∧ i = 0) ∨ (t = 12 ∧ j = 0 ∧ i < 2) ∨ (t = 13 ∧ j < 2 ∧ i < 13) ∨ (t = 14 ∧ j = 0 ∧ i = 0) ∨ (t = 15 ∧ j = 0 ∧ i < 4) ∨ (t = 16 ∧ j = 0 ∧ i = 0)
def wd_k (t : Nat) : Nat := ([5, 3, 9, 6, 9, 11, 12, 7, 1, 2, 13, 4, 14, 9, 8, 9, 10] : List Nat).getD t 0
def wd_n (t i : Nat) : Nat := if t = 15 then ([237, 948, 169, 169] : List Nat).getD i 0 else ([0, 0, 13, 0, 6, 5, 16, 0, 0, 0, 4, 0, 13, 13, 0, 0, 1] : List Nat).getD t 0
/-- which row of ints, and which place in it, is slot k of a thing -/
def wd_i (t j i k : Nat) : Option (Nat × Nat) :=
  if t = 0 then (if k = 3 then some (j, 0) else if k = 4 then some (j, 101) else if k = 5 then some (j, 230) else none)
  else if t = 1 then (if 1 ≤ k ∧ k ≤ 8 then some (j, 20 * i + k) else none)
  else if t = 2 then (if 1 ≤ k ∧ k ≤ 12 then some (j, 20 * i + 8 + k) else none)
  else if t = 3 then (if 1 ≤ k ∧ k ≤ 8 then some (j, 101 + 8 * i + k) else none)
  else if t = 4 then (if k < 6 then some (j, 231 + k) else none)
  else if t = 9 then (if k = 1 then some (5, 0) else none)
  else if t = 13 then (if k < 13 then some (6 + j, 13 * i + k) else none)
  else if t = 14 then (if k = 2 then some (12, 0) else if k = 3 then some (12, 1) else none)
  else if t = 15 then (if k < wd_n 15 i then some (8 + i, k) else none)
  else none
/-- what a reference of a thing leads to -/
def wd_r (pi : Nat → Nat) (t j i k : Nat) : Option (Nat × Nat × Nat) :=
  if t = 0 then (if k = 0 then some (5, j, 0) else if k = 1 then some (6, j, 0) else if k = 2 then some (4, j, 0) else none)
  else if t = 1 then (if k = 9 then some (2, j, i) else none)
  else if t = 5 then (if k < 5 then some (1, j, k) else none)
  else if t = 6 then (if k < 16 then some (3, j, k) else none)
  else if t = 7 then (if k = 0 then some (0, 0, 0) else if k = 1 then some (8, 0, 0) else if k = 2 then some (9, 0, 0) else if k = 3 then some (11, 0, 0) else none)
  else if t = 8 then (if k = 0 then some (0, 0, 0) else none)
  else if t = 9 then (if k = 0 then some (10, 0, 0) else none)
  else if t = 10 then (if k < 4 then some (0, pi k, 0) else none)
  else if t = 11 then (if k = 0 then some (12, 0, 0) else if k = 1 then some (12, 0, 1) else none)
  else if t = 12 then (if k < 13 then some (13, i, k) else none)
  else if t = 14 then (if k = 0 then some (15, 0, 0) else if k = 1 then some (15, 0, 1) else if k = 4 then some (15, 0, 2) else if k = 5 then some (15, 0, 3) else none)
  else none
abbrev wd_S : Type := (Nat → Nat → Int32) × (Nat → Nat) × (Nat → Int64)
def wd_w (o : wd_S) (r x : Nat) (v : Int32) : wd_S := (fun r2 x2 => if r2 = r ∧ x2 = x then v else o.1 r2 x2, o.2.1, o.2.2)
def wd_j (o : wd_S) (x : Nat) (v : Int64) : wd_S := (o.1, o.2.1, fun x2 => if x2 = x then v else o.2.2 x2)
def wd_pi (o : wd_S) (pi : Nat → Nat) : wd_S := (o.1, pi, o.2.2)
theorem wd_get (o : wd_S) (r x : Nat) (v : Int32) (r2 x2 : Nat) : (wd_w o r x v).1 r2 x2 = if r2 = r ∧ x2 = x then v else o.1 r2 x2 := rfl
def wd_P (ad : Nat → Nat → Nat → Nat) (h : mm_H) (o : wd_S) : Prop :=
  (∀ t j i t2 j2 i2, wd_v t j i → wd_v t2 j2 i2 → ad t j i = ad t2 j2 i2 → t = t2 ∧ j = j2 ∧ i = i2) ∧
  (∀ t j i, wd_v t j i → mm_k h (ad t j i) = wd_k t) ∧
  (∀ t j i, wd_v t j i → 9 ≤ wd_k t → mm_n h (ad t j i) = wd_n t i) ∧
  (∀ t j i k q, wd_v t j i → wd_r o.2.1 t j i k = some q → mm_p h (ad t j i) k = some (ad q.1 q.2.1 q.2.2)) ∧
  (∀ t j i k q, wd_v t j i → wd_i t j i k = some q → mm_i h (ad t j i) k = o.1 q.1 q.2) ∧
  ((∀ j i, wd_v 1 j i → mm_i h (ad 1 j i) 0 = nI i) ∧ ∀ j i, wd_v 3 j i → mm_i h (ad 3 j i) 0 = nI i) ∧
  (mm_j h (ad 14 0 0) 6 = o.2.2 0 ∧ mm_j h (ad 16 0 0) 0 = o.2.2 1) ∧
  (∀ p, p < 4 → 1 ≤ o.2.1 p ∧ o.2.1 p < 5)
/-- back from a place to the thing -/
def wd_b (q : Nat × Nat) : Nat × Nat × Nat × Nat :=
  if q.1 < 5 then
    (if q.2 = 0 then (0, q.1, 0, 3) else if q.2 < 101 then (if (q.2 - 1) % 20 < 8 then (1, q.1, (q.2 - 1) / 20, (q.2 - 1) % 20 + 1) else (2, q.1, (q.2 - 1) / 20, (q.2 - 1) % 20 - 7))
    else if q.2 = 101 then (0, q.1, 0, 4) else if q.2 < 230 then (3, q.1, (q.2 - 102) / 8, (q.2 - 102) % 8 + 1) else if q.2 = 230 then (0, q.1, 0, 5) else (4, q.1, 0, q.2 - 231))
  else if q.1 = 5 then (9, 0, 0, 1)
  else if q.1 < 8 then (13, q.1 - 6, q.2 / 13, q.2 % 13)
  else if q.1 < 12 then (15, 0, q.1 - 8, q.2)
  else (14, 0, 0, q.2 + 2)
theorem wd_back {t j i k : Nat} {q : Nat × Nat} (hv : wd_v t j i) (h : wd_i t j i k = some q) : wd_b q = (t, j, i, k) := by
  unfold wd_i at h
  rcases hv with ⟨rfl, h1, h2⟩ | ⟨rfl, h1, h2⟩ | ⟨rfl, h1, h2⟩ | ⟨rfl, h1, h2⟩ | ⟨rfl, h1, h2⟩ | ⟨rfl, h1, h2⟩ | ⟨rfl, h1, h2⟩ | ⟨rfl, h1, h2⟩ | ⟨rfl, h1, h2⟩ | ⟨rfl, h1, h2⟩ | ⟨rfl, h1, h2⟩ | ⟨rfl, h1, h2⟩ | ⟨rfl, h1, h2⟩ | ⟨rfl, h1, h2⟩ | ⟨rfl, h1, h2⟩ | ⟨rfl, h1, h2⟩ | ⟨rfl, h1, h2⟩ <;> simp at h
  · subst h2
    by_cases a : k = 3
    · subst a; simp at h; subst h; simp [wd_b, h1]
    · by_cases b : k = 4
      · subst b; simp at h; subst h; simp [wd_b, h1]
      · by_cases c : k = 5
        · subst c; simp at h; subst h; simp [wd_b, h1]
        · simp [a, b, c] at h
  · obtain ⟨⟨a, b⟩, rfl⟩ := h
    have e1 : (20 * i + k - 1) % 20 = k - 1 := by omega
    have e2 : (20 * i + k - 1) / 20 = i := by omega
    simp only [wd_b, e1, e2]
    rw [if_pos h1, if_neg (by omega), if_pos (by omega), if_pos (by omega)]
    simp; omega
  · obtain ⟨⟨a, b⟩, rfl⟩ := h
    have e1 : (20 * i + 8 + k - 1) % 20 = 7 + k := by omega
    have e2 : (20 * i + 8 + k - 1) / 20 = i := by omega
    simp only [wd_b, e1, e2]
    rw [if_pos h1, if_neg (by omega), if_pos (by omega), if_neg (by omega)]
    simp
  · obtain ⟨⟨a, b⟩, rfl⟩ := h
    have e1 : (101 + 8 * i + k - 102) % 8 = k - 1 := by omega
    have e2 : (101 + 8 * i + k - 102) / 8 = i := by omega
    simp only [wd_b, e1, e2]
    rw [if_pos h1, if_neg (by omega), if_neg (by omega), if_neg (by omega), if_pos (by omega)]
    simp; omega
  · obtain ⟨a, rfl⟩ := h
    subst h2
    simp only [wd_b]
    rw [if_pos h1, if_neg (by omega), if_neg (by omega), if_neg (by omega), if_neg (by omega), if_neg (by omega)]
    simp
  · obtain ⟨rfl, rfl⟩ := h
    subst h1; subst h2
    rfl
  · obtain ⟨a, rfl⟩ := h
    have e1 : (13 * i + k) % 13 = k := by omega
    have e2 : (13 * i + k) / 13 = i := by omega
    simp only [wd_b, e1, e2]
    rw [if_neg (by omega), if_neg (by omega), if_pos (by omega)]
    simp
  · subst h1; subst h2
    by_cases a : k = 2
    · subst a; simp at h; subst h; rfl
    · by_cases b : k = 3
      · subst b; simp at h; subst h; rfl
      · simp [a, b] at h
  · obtain ⟨a, rfl⟩ := h
    subst h1
    simp only [wd_b]
    rw [if_neg (by omega), if_neg (by omega), if_neg (by omega), if_pos (by omega)]
    simp
theorem wd_0 {t j i k : Nat} {q : Nat × Nat} (ht : t = 1 ∨ t = 3) (h : wd_i t j i k = some q) : k ≠ 0 := by
  intro hk
  subst hk
  rcases ht with rfl | rfl <;> simp [wd_i] at h
/-- a write of an int keeps the world -/
theorem wd_put {ad : Nat → Nat → Nat → Nat} {h : mm_H} {o : wd_S} (W : wd_P ad h o) {t j i k : Nat} {q : Nat × Nat} (hv : wd_v t j i) (hi : wd_i t j i k = some q) (v : Int32) : wd_P ad (mm_si h (ad t j i) k v) (wd_w o q.1 q.2 v) := by
  obtain ⟨w1, w2, w3, w4, w5, ⟨w6, w6b⟩, w7, w8⟩ := W
  refine ⟨w1, w2, w3, w4, fun t2 j2 i2 k2 q2 hv2 hi2 => ?_, ⟨fun j2 i2 hv2 => ?_, fun j2 i2 hv2 => ?_⟩, w7, w8⟩
  · rw [mm_i_si, wd_get]
    by_cases hc : ad t2 j2 i2 = ad t j i ∧ k2 = k
    · rw [if_pos hc]
      obtain ⟨e1, e2, e3⟩ := w1 _ _ _ _ _ _ hv2 hv hc.1
      obtain ⟨-, rfl⟩ := hc
      subst e1; subst e2; subst e3
      cases Option.some.inj (hi2.symm.trans hi)
      rw [if_pos ⟨rfl, rfl⟩]
    · rw [if_neg hc, if_neg, w5 _ _ _ _ _ hv2 hi2]
      intro hq
      have e : q2 = q := Prod.ext hq.1 hq.2
      subst e
      have := (wd_back hv2 hi2).symm.trans (wd_back hv hi)
      simp only [Prod.mk.injEq] at this
      obtain ⟨e1, e2, e3, e4⟩ := this
      exact hc ⟨by rw [e1, e2, e3], e4⟩
  · rw [mm_i_si, if_neg, w6 _ _ hv2]
    intro hc
    obtain ⟨e1, e2, e3⟩ := w1 _ _ _ _ _ _ hv2 hv hc.1
    subst e1
    exact wd_0 (Or.inl rfl) hi hc.2.symm
  · rw [mm_i_si, if_neg, w6b _ _ hv2]
    intro hc
    obtain ⟨e1, e2, e3⟩ := w1 _ _ _ _ _ _ hv2 hv hc.1
    subst e1
    exact wd_0 (Or.inr rfl) hi hc.2.symm
theorem wd_putj {ad : Nat → Nat → Nat → Nat} {h : mm_H} {o : wd_S} (W : wd_P ad h o) (v : Int64) : wd_P ad (mm_sj h (ad 14 0 0) 6 v) (wd_j o 0 v) ∧ wd_P ad (mm_sj h (ad 16 0 0) 0 v) (wd_j o 1 v) := by
  obtain ⟨w1, w2, w3, w4, w5, w6, ⟨w7, w7b⟩, w8⟩ := W
  have v14 : wd_v 14 0 0 := by simp [wd_v]
  have v16 : wd_v 16 0 0 := by simp [wd_v]
  have hne : ad 14 0 0 ≠ ad 16 0 0 := fun e => by have := (w1 _ _ _ _ _ _ v14 v16 e).1; omega
  refine ⟨⟨w1, w2, w3, w4, w5, w6, ⟨?_, ?_⟩, w8⟩, ⟨w1, w2, w3, w4, w5, w6, ⟨?_, ?_⟩, w8⟩⟩
  · simp [mm_j_sj, wd_j]
  · simp [mm_j_sj, wd_j, Ne.symm hne, w7b]
  · simp [mm_j_sj, wd_j, hne, w7]
  · simp [mm_j_sj, wd_j]
/-- a state put into History's row -/
theorem wd_putp {ad : Nat → Nat → Nat → Nat} {h : mm_H} {o : wd_S} (W : wd_P ad h o) {k j : Nat} (hk : k < 4) (hj : 1 ≤ j ∧ j < 5) : wd_P ad (mm_sp h (ad 10 0 0) k (some (ad 0 j 0))) (wd_pi o (fun x => if x = k then j else o.2.1 x)) := by
  obtain ⟨w1, w2, w3, w4, w5, w6, w7, w8⟩ := W
  have v10 : wd_v 10 0 0 := by simp [wd_v]
  refine ⟨w1, w2, w3, fun t2 j2 i2 k2 q2 hv2 hi2 => ?_, w5, w6, w7, fun p hp => ?_⟩
  · rw [mm_p_sp]
    by_cases hc : ad t2 j2 i2 = ad 10 0 0 ∧ k2 = k
    · rw [if_pos hc]
      obtain ⟨e1, e2, e3⟩ := w1 _ _ _ _ _ _ hv2 v10 hc.1
      obtain ⟨-, rfl⟩ := hc
      subst e1; subst e2; subst e3
      simp [wd_r, wd_pi, hk] at hi2
      subst hi2
      rfl
    · rw [if_neg hc]
      refine w4 _ _ _ _ _ hv2 ?_
      rw [← hi2]
      by_cases ht : t2 = 10
      · subst ht
        have e23 : j2 = 0 ∧ i2 = 0 := by simp [wd_v] at hv2; exact hv2
        obtain ⟨rfl, rfl⟩ := e23
        have hkk : k2 ≠ k := fun e => hc ⟨rfl, e⟩
        simp [wd_r, wd_pi, hkk]
      · simp [wd_r, ht]
  · show 1 ≤ (if p = k then j else o.2.1 p) ∧ (if p = k then j else o.2.1 p) < 5
    split
    · exact hj
    · exact w8 p hp
