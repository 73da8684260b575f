/-! a State as its constructor makes it -/
def B0 (x : Nat) : Int32 := if x = 0 then 2 else if x ≤ 100 then (if (x - 1) % 20 = 2 ∨ (x - 1) % 20 = 3 ∨ (x - 1) % 20 = 4 ∨ (x - 1) % 20 = 6 then -1 else if 8 ≤ (x - 1) % 20 then 1 else 0) else if x = 230 then 60 else 0
theorem B0_l {n k : Nat} (hn : n < 5) (h1 : 1 ≤ k) (h2 : k ≤ 20) : B0 (20 * n + k) = if k = 3 ∨ k = 4 ∨ k = 5 ∨ k = 7 then -1 else if 9 ≤ k then 1 else 0 := by
  unfold B0
  rw [if_neg (by omega), if_pos (by omega), show (20 * n + k - 1) % 20 = k - 1 by omega]
  have e1 : (k - 1 = 2 ∨ k - 1 = 3 ∨ k - 1 = 4 ∨ k - 1 = 6) ↔ (k = 3 ∨ k = 4 ∨ k = 5 ∨ k = 7) := by omega
  have e2 : (8 ≤ k - 1) ↔ (9 ≤ k) := by omega
  simp only [e1, e2]
theorem B0_s {x : Nat} (h1 : 101 ≤ x) (h2 : x ≠ 230) : B0 x = 0 := by
  unfold B0
  rw [if_neg (by omega), if_neg (by omega), if_neg h2]
def tvp (n m t i : Nat) : Prop := (t = 0 ∧ i = 0) ∨ (t = 1 ∧ i < n) ∨ (t = 2 ∧ i < n) ∨ (t = 3 ∧ i < m) ∨ (t = 4 ∧ i = 0) ∨ (t = 5 ∧ i = 0) ∨ (t = 6 ∧ i = 0)
def STp (n m : Nat) (h : mm_H) (f : Nat → Nat → Nat) : Prop :=
  (∀ t i t2 i2, tvp n m t i → tvp n m t2 i2 → f t i = f t2 i2 → t = t2 ∧ i = i2) ∧
  (∀ t i, tvp n m t i → mm_k h (f t i) = wd_k t) ∧
  (∀ t i, tvp n m t i → 9 ≤ wd_k t → mm_n h (f t i) = wd_n t i) ∧
  (∀ t i k q, tvp n m t i → wd_r (fun x => x) t 0 i k = some q → (t = 5 → k < n) → (t = 6 → k < m) → mm_p h (f t i) k = some (f q.1 q.2.2)) ∧
  (∀ t i k q, tvp n m t i → wd_i t 0 i k = some q → mm_i h (f t i) k = B0 q.2) ∧
  (∀ i, i < n → mm_i h (f 1 i) 0 = nI i) ∧ (∀ i, i < m → mm_i h (f 3 i) 0 = nI i)
section
variable {n m : Nat} {h h5 : mm_H} {f : Nat → Nat → Nat}
theorem STp.k0 (S : STp n m h f) {t i : Nat} (v : tvp n m t i) : mm_k h (f t i) ≠ 0 := by
  rw [S.2.1 t i v]
  rcases v with ⟨rfl, _⟩ | ⟨rfl, _⟩ | ⟨rfl, _⟩ | ⟨rfl, _⟩ | ⟨rfl, _⟩ | ⟨rfl, _⟩ | ⟨rfl, _⟩ <;> decide
theorem STp.keep (S : STp n m h f) (e : ∀ t i, tvp n m t i → eqa h h5 (f t i)) : STp n m h5 f := by
  obtain ⟨s1, s2, s3, s4, s5, s6, s7⟩ := S
  refine ⟨s1, fun t i v => (e t i v).1.trans (s2 t i v), fun t i v q => (e t i v).2.1.trans (s3 t i v q), fun t i k q v a b c => ((e t i v).2.2.2.2 k).trans (s4 t i k q v a b c), fun t i k q v a => ((e t i v).2.2.1 k).trans (s5 t i k q v a), fun i hi => ((e 1 i (by unfold tvp; omega)).2.2.1 0).trans (s6 i hi), fun i hi => ((e 3 i (by unfold tvp; omega)).2.2.1 0).trans (s7 i hi)⟩
theorem ST_loop {qa qr : Nat} {g : Nat → Nat → Nat} (fo : ∀ t i, tvp n m t i → g t i = f t i) (fa : g 1 n = qa) (fr : g 2 n = qr) (S : STp n m h f) (hn : n < 5) (ka : mm_k h qa = 0) (kr : mm_k h qr = 0) (hne : qa ≠ qr)
    (old : ∀ b, mm_k h b ≠ 0 → mm_k h5 b = mm_k h b ∧ mm_n h5 b = mm_n h b ∧ (∀ k, mm_i h5 b k = mm_i h b k) ∧ ∀ k, ¬ (b = f 5 0 ∧ k = n) → mm_p h5 b k = mm_p h b k)
    (hp : mm_p h5 (f 5 0) n = some qa) (la : mm_k h5 qa = 3) (lp : mm_p h5 qa 9 = some qr) (l0 : mm_i h5 qa 0 = nI n) (li : ∀ k, 1 ≤ k → k ≤ 8 → mm_i h5 qa k = B0 (20 * n + k)) (rk : mm_k h5 qr = 9) (rn : mm_n h5 qr = 13) (ri : ∀ k, 1 ≤ k → k ≤ 12 → mm_i h5 qr k = 1) :
    STp (n + 1) m h5 g := by
  have sp : ∀ t i, tvp (n + 1) m t i → tvp n m t i ∨ (t = 1 ∧ i = n) ∨ (t = 2 ∧ i = n) := fun t i v => by unfold tvp at *; omega
  have k0 := fun t i v => S.k0 (t := t) (i := i) v
  obtain ⟨s1, s2, s3, s4, s5, s6, s7⟩ := S
  refine ⟨fun t i t2 i2 v v2 e => ?_, fun t i v => ?_, fun t i v q => ?_, fun t i k q v e a b => ?_, fun t i k q v e => ?_, fun i hi => ?_, fun i hi => ?_⟩
  · rcases sp t i v with v | ⟨rfl, rfl⟩ | ⟨rfl, rfl⟩ <;> rcases sp t2 i2 v2 with v2 | ⟨rfl, rfl⟩ | ⟨rfl, rfl⟩
    · rw [fo t i v, fo t2 i2 v2] at e; exact s1 t i t2 i2 v v2 e
    · rw [fo t i v, fa] at e; exact absurd e (ne_k (k0 t i v) ka)
    · rw [fo t i v, fr] at e; exact absurd e (ne_k (k0 t i v) kr)
    · rw [fa, fo t2 i2 v2] at e; exact absurd e.symm (ne_k (k0 t2 i2 v2) ka)
    · exact ⟨rfl, rfl⟩
    · rw [fa, fr] at e; exact absurd e hne
    · rw [fr, fo t2 i2 v2] at e; exact absurd e.symm (ne_k (k0 t2 i2 v2) kr)
    · rw [fa, fr] at e; exact absurd e.symm hne
    · exact ⟨rfl, rfl⟩
  · rcases sp t i v with v | ⟨rfl, rfl⟩ | ⟨rfl, rfl⟩
    · simp only [fo t i v]; exact (old _ (k0 t i v)).1.trans (s2 t i v)
    · simp only [fa]; exact la
    · simp only [fr]; exact rk
  · rcases sp t i v with v | ⟨rfl, rfl⟩ | ⟨rfl, rfl⟩
    · simp only [fo t i v]; exact (old _ (k0 t i v)).2.1.trans (s3 t i v q)
    · exact absurd q (by decide)
    · simp only [fr]; exact rn
  · rcases sp t i v with v | ⟨rfl, rfl⟩ | ⟨rfl, rfl⟩
    · simp only [fo t i v]
      by_cases ht : t = 5 ∧ k = n
      · obtain ⟨rfl, rfl⟩ := ht
        have hi : i = 0 := by unfold tvp at v; omega
        subst hi
        rw [show wd_r (fun x => x) 5 0 0 k = some (1, 0, k) by simp [wd_r, hn]] at e
        obtain rfl := Option.some.inj e
        simp only [fa]; exact hp
      · have hb : ¬ (f t i = f 5 0 ∧ k = n) := fun z => ht ⟨(s1 t i 5 0 v (by unfold tvp; omega) z.1).1, z.2⟩
        rw [(old _ (k0 t i v)).2.2.2 k hb, s4 t i k q v e (fun z => by have := a z; omega) b]
        have hq : tvp n m q.1 q.2.2 := by
          rcases v with ⟨rfl, rfl⟩ | ⟨rfl, hi⟩ | ⟨rfl, hi⟩ | ⟨rfl, hi⟩ | ⟨rfl, rfl⟩ | ⟨rfl, rfl⟩ | ⟨rfl, rfl⟩
          · unfold wd_r at e
            rw [if_pos rfl] at e
            split at e
            · obtain rfl := Option.some.inj e; simp [tvp]
            · split at e
              · obtain rfl := Option.some.inj e; simp [tvp]
              · split at e
                · obtain rfl := Option.some.inj e; simp [tvp]
                · cases e
          · simp [wd_r] at e
            obtain ⟨_, rfl⟩ := e
            simp [tvp, hi]
          · simp [wd_r] at e
          · simp [wd_r] at e
          · simp [wd_r] at e
          · simp [wd_r] at e
            obtain ⟨_, rfl⟩ := e
            have := a rfl
            exact Or.inr (Or.inl ⟨rfl, by show k < n; omega⟩)
          · simp [wd_r] at e
            obtain ⟨_, rfl⟩ := e
            have := b rfl
            exact Or.inr (Or.inr (Or.inr (Or.inl ⟨rfl, by show k < m; omega⟩)))
        rw [fo _ _ hq]
    · simp only [fa]
      simp [wd_r] at e
      obtain ⟨rfl, rfl⟩ := e
      simp only [fr]; exact lp
    · simp [wd_r] at e
  · rcases sp t i v with v | ⟨rfl, rfl⟩ | ⟨rfl, rfl⟩
    · simp only [fo t i v]; exact ((old _ (k0 t i v)).2.2.1 k).trans (s5 t i k q v e)
    · simp only [fa]
      simp [wd_i] at e
      obtain ⟨⟨h1, h2⟩, rfl⟩ := e
      exact li k h1 h2
    · simp only [fr]
      simp [wd_i] at e
      obtain ⟨⟨h1, h2⟩, rfl⟩ := e
      rw [ri k h1 h2]
      show 1 = B0 (20 * i + 8 + k)
      rw [Nat.add_assoc, B0_l hn (by omega) (by omega), if_neg (by omega), if_pos (by omega)]
  · by_cases e : i = n
    · subst e; simp only [fa]; exact l0
    · have v : tvp n m 1 i := by unfold tvp; omega
      simp only [fo 1 i v]; rw [(old _ (k0 1 i v)).2.2.1]; exact s6 i (by omega)
  · have v : tvp n m 3 i := by unfold tvp; omega
    simp only [fo 3 i v]; rw [(old _ (k0 3 i v)).2.2.1]; exact s7 i hi
theorem ST_sub {qs : Nat} {g : Nat → Nat → Nat} (fo : ∀ t i, tvp n m t i → g t i = f t i) (fa : g 3 m = qs) (S : STp n m h f) (hm : m < 16) (ka : mm_k h qs = 0)
    (old : ∀ b, mm_k h b ≠ 0 → mm_k h5 b = mm_k h b ∧ mm_n h5 b = mm_n h b ∧ (∀ k, mm_i h5 b k = mm_i h b k) ∧ ∀ k, ¬ (b = f 6 0 ∧ k = m) → mm_p h5 b k = mm_p h b k)
    (hp : mm_p h5 (f 6 0) m = some qs) (la : mm_k h5 qs = 6) (l0 : mm_i h5 qs 0 = nI m) (li : ∀ k, 1 ≤ k → k ≤ 8 → mm_i h5 qs k = 0) :
    STp n (m + 1) h5 g := by
  have sp : ∀ t i, tvp n (m + 1) t i → tvp n m t i ∨ (t = 3 ∧ i = m) := fun t i v => by unfold tvp at *; omega
  have k0 := fun t i v => S.k0 (t := t) (i := i) v
  obtain ⟨s1, s2, s3, s4, s5, s6, s7⟩ := S
  refine ⟨fun t i t2 i2 v v2 e => ?_, fun t i v => ?_, fun t i v q => ?_, fun t i k q v e a b => ?_, fun t i k q v e => ?_, fun i hi => ?_, fun i hi => ?_⟩
  · rcases sp t i v with v | ⟨rfl, rfl⟩ <;> rcases sp t2 i2 v2 with v2 | ⟨rfl, rfl⟩
    · rw [fo t i v, fo t2 i2 v2] at e; exact s1 t i t2 i2 v v2 e
    · rw [fo t i v, fa] at e; exact absurd e (ne_k (k0 t i v) ka)
    · rw [fa, fo t2 i2 v2] at e; exact absurd e.symm (ne_k (k0 t2 i2 v2) ka)
    · exact ⟨rfl, rfl⟩
  · rcases sp t i v with v | ⟨rfl, rfl⟩
    · simp only [fo t i v]; exact (old _ (k0 t i v)).1.trans (s2 t i v)
    · simp only [fa]; exact la
  · rcases sp t i v with v | ⟨rfl, rfl⟩
    · simp only [fo t i v]; exact (old _ (k0 t i v)).2.1.trans (s3 t i v q)
    · exact absurd q (by decide)
  · rcases sp t i v with v | ⟨rfl, rfl⟩
    · simp only [fo t i v]
      by_cases ht : t = 6 ∧ k = m
      · obtain ⟨rfl, rfl⟩ := ht
        have hi : i = 0 := by unfold tvp at v; omega
        subst hi
        rw [show wd_r (fun x => x) 6 0 0 k = some (3, 0, k) by simp [wd_r, hm]] at e
        obtain rfl := Option.some.inj e
        simp only [fa]; exact hp
      · have hb : ¬ (f t i = f 6 0 ∧ k = m) := fun z => ht ⟨(s1 t i 6 0 v (by unfold tvp; omega) z.1).1, z.2⟩
        rw [(old _ (k0 t i v)).2.2.2 k hb, s4 t i k q v e a (fun z => by have := b z; omega)]
        have hq : tvp n m q.1 q.2.2 := by
          rcases v with ⟨rfl, rfl⟩ | ⟨rfl, hi⟩ | ⟨rfl, hi⟩ | ⟨rfl, hi⟩ | ⟨rfl, rfl⟩ | ⟨rfl, rfl⟩ | ⟨rfl, rfl⟩
          · unfold wd_r at e
            rw [if_pos rfl] at e
            split at e
            · obtain rfl := Option.some.inj e; simp [tvp]
            · split at e
              · obtain rfl := Option.some.inj e; simp [tvp]
              · split at e
                · obtain rfl := Option.some.inj e; simp [tvp]
                · cases e
          · simp [wd_r] at e
            obtain ⟨_, rfl⟩ := e
            simp [tvp, hi]
          · simp [wd_r] at e
          · simp [wd_r] at e
          · simp [wd_r] at e
          · simp [wd_r] at e
            obtain ⟨_, rfl⟩ := e
            have := a rfl
            exact Or.inr (Or.inl ⟨rfl, by show k < n; omega⟩)
          · simp [wd_r] at e
            obtain ⟨_, rfl⟩ := e
            have := b rfl
            exact Or.inr (Or.inr (Or.inr (Or.inl ⟨rfl, by show k < m; omega⟩)))
        rw [fo _ _ hq]
    · simp [wd_r] at e
  · rcases sp t i v with v | ⟨rfl, rfl⟩
    · simp only [fo t i v]; exact ((old _ (k0 t i v)).2.2.1 k).trans (s5 t i k q v e)
    · simp only [fa]
      simp [wd_i] at e
      obtain ⟨⟨h1, h2⟩, rfl⟩ := e
      rw [li k h1 h2]
      exact (B0_s (by show 101 ≤ 101 + 8 * i + k; omega) (by show 101 + 8 * i + k ≠ 230; omega)).symm
  · have v : tvp n m 1 i := by unfold tvp; omega
    simp only [fo 1 i v]; rw [(old _ (k0 1 i v)).2.2.1]; exact s6 i hi
  · by_cases e : i = m
    · subst e; simp only [fa]; exact l0
    · have v : tvp n m 3 i := by unfold tvp; omega
      simp only [fo 3 i v]; rw [(old _ (k0 3 i v)).2.2.1]; exact s7 i (by omega)
end
