/-! the best codes given; what both answer -/
theorem cnt_le {f g : Nat → Bool} : ∀ (k i : Nat), (∀ j, i ≤ j → j < i + k → f j = true → g j = true) → cntN f k i ≤ cntN g k i
  | 0, _, _ => Nat.le_refl _
  | k + 1, i, h => by
    rw [cntN, cntN]
    have ih := cnt_le (f := f) (g := g) k (i + 1) (fun j h1 h2 => h j (by omega) (by omega))
    by_cases q : f i = true
    · rw [if_pos q, if_pos (h i (Nat.le_refl i) (by omega) q)]; omega
    · rw [if_neg q]; split <;> omega
theorem cnt_lt {f g : Nat → Bool} : ∀ (k i : Nat), (∀ j, i ≤ j → j < i + k → f j = true → g j = true) → (∃ j, i ≤ j ∧ j < i + k ∧ f j = false ∧ g j = true) → cntN f k i < cntN g k i
  | 0, i, _, ⟨j, a, b, _⟩ => absurd a (by omega)
  | k + 1, i, h, ⟨j, a, b, c, d⟩ => by
    rw [cntN, cntN]
    by_cases e : j = i
    · subst e
      have ih := cnt_le (f := f) (g := g) k (j + 1) (fun j h1 h2 => h j (by omega) (by omega))
      rw [if_neg (by rw [c]; decide), if_pos d]; omega
    · have ih := cnt_lt (f := f) (g := g) k (i + 1) (fun j h1 h2 => h j (by omega) (by omega)) ⟨j, by omega, by omega, c, d⟩
      by_cases q : f i = true
      · rw [if_pos q, if_pos (h i (Nat.le_refl i) (by omega) q)]; omega
      · rw [if_neg q]; split <;> omega
section
variable {B N : Nat → Int32} {n m : Nat}
theorem bef_iff {s t : Nat} (hs : s < 16) (ht : t < 16) : cs_bef B s t ≠ 0 ↔ (B (101 + 8 * s + 5) > B (101 + 8 * t + 5) ∨ (B (101 + 8 * s + 5) = B (101 + 8 * t + 5) ∧ s < t)) := by
  unfold cs_bef
  by_cases h1 : B (101 + 8 * s + 5) > B (101 + 8 * t + 5)
  · simp [h1]
  · rw [if_neg h1]
    by_cases h2 : B (101 + 8 * s + 5) = B (101 + 8 * t + 5)
    · rw [if_neg (fun q => q h2)]
      by_cases h3 : s < t
      · rw [if_neg (nI_ge h3 (by omega))]; simp [h2, h3]
      · rw [if_pos (nI_le (by omega) (by omega))]; simp [h1, h3]
    · rw [if_pos h2]; simp [h1, h2]
theorem bef_tr {r s t : Nat} (hr : r < 16) (hs : s < 16) (ht : t < 16) (h1 : cs_bef B r s ≠ 0) (h2 : cs_bef B s t ≠ 0) : cs_bef B r t ≠ 0 := by
  rw [bef_iff hr hs] at h1
  rw [bef_iff hs ht] at h2
  rw [bef_iff hr ht]
  rcases h1 with a | ⟨a, a2⟩ <;> rcases h2 with b | ⟨b, b2⟩
  · exact Or.inl (Int32.lt_trans b a)
  · exact Or.inl (b ▸ a)
  · exact Or.inl (a ▸ b)
  · exact Or.inr ⟨a.trans b, by omega⟩
theorem bef_tot {s t : Nat} (hs : s < 16) (ht : t < 16) (hne : s ≠ t) : cs_bef B s t ≠ 0 ∨ cs_bef B t s ≠ 0 := by
  rw [bef_iff hs ht, bef_iff ht hs]
  by_cases h1 : B (101 + 8 * s + 5) = B (101 + 8 * t + 5)
  · by_cases h2 : s < t
    · exact Or.inl (Or.inr ⟨h1, h2⟩)
    · exact Or.inr (Or.inr ⟨h1.symm, by omega⟩)
  · by_cases h2 : B (101 + 8 * s + 5) > B (101 + 8 * t + 5)
    · exact Or.inl (Or.inl h2)
    · refine Or.inr (Or.inl ?_)
      have h3 := Int32.not_lt.mp h2
      rw [Int32.le_iff_toInt_le] at h3
      show B (101 + 8 * s + 5) < B (101 + 8 * t + 5)
      rw [Int32.lt_iff_toInt_lt]
      have : (B (101 + 8 * s + 5)).toInt ≠ (B (101 + 8 * t + 5)).toInt := fun e => h1 (Int32.toInt_inj.mp e)
      omega
theorem rank_bef {l s t : Nat} (hm : m ≤ 16) (hs : mem B m l s) (ht : mem B m l t) (h : cs_bef B s t ≠ 0) : cs_rank B m l s < cs_rank B m l t := by
  have h1 := hs.1
  have h2 := ht.1
  refine cnt_lt 16 0 (fun j _ _ q => ?_) ⟨s, by omega, by omega, ?_, ?_⟩
  · simp only [cs_ahead, Bool.and_eq_true, decide_eq_true_eq] at q ⊢
    exact ⟨q.1, bef_tr (by have := q.1.1; omega) (by omega) (by omega) q.2 h⟩
  · have : ¬ cs_bef B s s ≠ 0 := fun q => q (bef_irr B s)
    simp [cs_ahead, bef_irr]
  · simp only [cs_ahead, Bool.and_eq_true, decide_eq_true_eq]
    exact ⟨hs, h⟩
theorem rank_inj {l s t : Nat} (hm : m ≤ 16) (hs : mem B m l s) (ht : mem B m l t) (h : cs_rank B m l s = cs_rank B m l t) : s = t := by
  by_cases e : s = t
  · exact e
  · rcases bef_tot (B := B) (s := s) (t := t) (by have := hs.1; omega) (by have := ht.1; omega) e with q | q
    · have := rank_bef hm hs ht q; omega
    · have := rank_bef hm ht hs q; omega
theorem bl_inj {a b : Nat} (ha : a < 14) (hb : b < 14) (h : mm_bl a = mm_bl b) : a = b := by
  have key : ∀ a, a < 14 → ∀ b, b < 14 → mm_bl a = mm_bl b → a = b := by decide
  exact key a ha b hb h
theorem give_ch {l : Nat} : ∀ (k i : Nat) (B : Nat → Int32), (∀ x, cs_give m l k i B x = B x ∨ ∃ s, i ≤ s ∧ s < i + k ∧ mem B m l s ∧ x = 101 + 8 * s + 3) ∧ (∀ s, i ≤ s → s < i + k → mem B m l s → cs_give m l k i B (101 + 8 * s + 3) = mm_bl (cs_rank B m l s))
  | 0, i, B => ⟨fun x => Or.inl rfl, fun s h1 h2 => absurd h1 (by omega)⟩
  | k + 1, i, B => by
    unfold cs_give
    by_cases h : mem B m l i
    · rw [if_pos h]
      have mm : ∀ s, mem (upd B (101 + 8 * i + 3) (mm_bl (cs_rank B m l i))) m l s ↔ mem B m l s := fun s => by unfold mem; rw [upd_ne _ _ (by omega)]
      obtain ⟨a, b⟩ := give_ch (l := l) k (i + 1) (upd B (101 + 8 * i + 3) (mm_bl (cs_rank B m l i)))
      simp only [mm, cs_rank_code] at a b
      refine ⟨fun x => ?_, fun s h1 h2 h3 => ?_⟩
      · rcases a x with q | ⟨s, q1, q2, q3, q4⟩
        · by_cases e : x = 101 + 8 * i + 3
          · exact Or.inr ⟨i, by omega, by omega, h, e⟩
          · rw [upd_ne _ _ e] at q; exact Or.inl q
        · exact Or.inr ⟨s, by omega, by omega, q3, q4⟩
      · by_cases e : s = i
        · subst e
          rcases a (101 + 8 * s + 3) with q | ⟨s2, q1, q2, q3, q4⟩
          · rw [q, upd_self]
          · omega
        · exact b s (by omega) (by omega) h3
    · rw [if_neg h]
      obtain ⟨a, b⟩ := give_ch (l := l) k (i + 1) B
      refine ⟨fun x => ?_, fun s h1 h2 h3 => ?_⟩
      · rcases a x with q | ⟨s, q1, q2, q3, q4⟩
        · exact Or.inl q
        · exact Or.inr ⟨s, by omega, by omega, q3, q4⟩
      · by_cases e : s = i
        · subst e; exact absurd h3 h
        · exact b s (by omega) (by omega) h3
theorem asg_ne {l : Nat} : ∀ (k i : Nat) (N : Nat → Int32) (x : Nat), (∀ s, x ≠ 101 + 8 * s + 3) → mf_asg m l k i N x = N x
  | 0, _, _, _, _ => rfl
  | k + 1, i, N, x, h => by
    unfold mf_asg
    rw [asg_ne k (i + 1) _ x h]
    split
    · exact upd_ne _ _ (h i)
    · rfl
theorem give_hi {l : Nat} : ∀ (k i : Nat) (B : Nat → Int32), m ≤ i → cs_give m l k i B = B ∧ cs_given m l k i B = 0
  | 0, _, _, _ => ⟨rfl, rfl⟩
  | k + 1, i, B, h => by
    have hn : ¬ mem B m l i := fun q => absurd q.1 (by omega)
    unfold cs_give cs_given
    rw [if_neg hn, if_neg hn]
    obtain ⟨a, b⟩ := give_hi (l := l) k (i + 1) B (by omega)
    exact ⟨a, by rw [b]; decide⟩
theorem S_asg {l : Nat} (hm : m ≤ 16) : ∀ (k i : Nat) (B N : Nat → Int32), i + k = 16 → i ≤ m → ag B N n m → ag (cs_give m l k i B) (mf_asg m l (m - i) i N) n m ∧ cs_given m l k i B = mf_asn m l (m - i) i N
  | 0, i, B, N, hk, hi, A => by
    have e : m - i = 0 := by omega
    rw [e]; exact ⟨A, rfl⟩
  | k + 1, i, B, N, hk, hi, A => by
    by_cases h : i < m
    · obtain ⟨d, hd⟩ : ∃ d, m - i = d + 1 := ⟨m - i - 1, by omega⟩
      have e : m - (i + 1) = d := by omega
      rw [hd]
      unfold cs_give cs_given mf_asg mf_asn
      rw [rd_rank A hm h, ag_s A h (by omega) (by omega) (by omega), ag_s A h (show 1 ≤ 3 by omega) (by omega) (by omega)]
      by_cases q : mem B m l i
      · rw [if_pos q, if_pos q.2, if_pos q.2, if_pos q]
        obtain ⟨r1, r2⟩ := S_asg (l := l) hm k (i + 1) _ _ (by omega) (by omega) (ag_upd A (101 + 8 * i + 3) (mm_bl (cs_rank B m l i)))
        rw [e] at r1 r2
        have key : (if B (101 + 8 * i + 3) ≠ mm_bl (cs_rank B m l i) then (1 : Int32) else 0) = if mm_bl (cs_rank B m l i) ≠ B (101 + 8 * i + 3) then 1 else 0 := by
          by_cases w : B (101 + 8 * i + 3) = mm_bl (cs_rank B m l i)
          · rw [if_neg (fun z => z w), if_neg (fun z => z w.symm)]
          · rw [if_pos w, if_pos (fun z => w z.symm)]
        exact ⟨r1, by rw [r2, key]⟩
      · have q2 : ¬ B (101 + 8 * i + 1) = nI l := fun z => q ⟨h, z⟩
        rw [if_neg q, if_neg q2, if_neg q2, if_neg q]
        obtain ⟨r1, r2⟩ := S_asg (l := l) hm k (i + 1) B N (by omega) (by omega) A
        rw [e] at r1 r2
        exact ⟨r1, by rw [r2]⟩
    · have e : m - i = 0 := by omega
      rw [e]
      obtain ⟨a, b⟩ := give_hi (m := m) (l := l) (k + 1) i B (by omega)
      rw [a, b]; exact ⟨A, rfl⟩
theorem S_assign {l : Nat} (I : Iv B N n m) : Iv (cs_give m l 16 0 B) (mf_asg m l m 0 N) n m ∧ cs_given m l 16 0 B = mf_asn m l m 0 N := by
  have hm := I.1.2.2.2.1
  obtain ⟨r1, r2⟩ := S_asg (l := l) hm 16 0 B N (by decide) (Nat.zero_le m) I.2.2.1
  obtain ⟨a, b⟩ := give_ch (m := m) (l := l) 16 0 B
  have ge : ∀ x, (∀ s, x ≠ 101 + 8 * s + 3) → cs_give m l 16 0 B x = B x := fun x hx => by
    rcases a x with q | ⟨s, _, _, _, q⟩
    · exact q
    · exact absurd q (hx s)
  have gn : ∀ s, ¬ mem B m l s → cs_give m l 16 0 B (101 + 8 * s + 3) = B (101 + 8 * s + 3) := fun s hs => by
    rcases a (101 + 8 * s + 3) with q | ⟨t, _, _, q1, q⟩
    · exact q
    · have : t = s := by omega
      subst this; exact absurd q1 hs
  have gm : ∀ s, mem B m l s → cs_give m l 16 0 B (101 + 8 * s + 3) = mm_bl (cs_rank B m l s) := fun s hs => b s (by omega) (by have := hs.1; omega) hs
  refine ⟨Iv_soft I (fun x hx => ?_) (fun s hs => asg_ne _ _ _ _ (fun t => by omega)) (by simpa using r1) (fun x h1 h2 => asg_ne _ _ _ _ (fun t => by omega)) (fun s hs => ?_) (fun s hs => ?_) (fun s t hs ht hst hh => ?_), by simpa using r2⟩
  · rcases a x with q | ⟨s, _, h2, _, q⟩
    · exact q
    · rw [q] at hx; exact absurd (sfs (by omega) (Or.inl rfl)) hx
  · by_cases q : mem B m l s
    · rw [gm s q]; exact bl_code _ (rank_lt I l s q)
    · rw [gn s q]; exact I.1.2.2.2.2.2 s hs
  · rw [ge _ (fun t => by omega)]; exact (I.2.1.2 s hs).1
  · rw [ge _ (fun t => by omega), ge _ (fun t => by omega)] at hh
    by_cases q : mem B m l s
    · have q2 : mem B m l t := ⟨ht, hh.symm.trans q.2⟩
      rw [gm s q, gm t q2]
      exact fun e => hst (rank_inj hm q q2 (bl_inj (rank_lt I l s q) (rank_lt I l t q2) e))
    · have q2 : ¬ mem B m l t := fun z => q ⟨hs, hh.trans z.2⟩
      rw [gn s q, gn t q2]
      exact I.2.2.2.2.2.2 s t hs ht hst hh
/-! what both answer -/
theorem b01 {x : Int32} (h : x = 0 ∨ x = 1) : cs_01 x = x := by rcases h with h | h <;> rw [h] <;> decide
theorem rd_told (I : Iv B N n m) {l s : Nat} {w : Int32} (hl : l < n) (hs : mem B m l s) : mf_told N l s w = cs_sval B l s w := by
  obtain ⟨G, Z, A, L, R, zz, dd⟩ := I
  have hn := G.2.1
  have hm := G.2.2.2.1
  have h1 := hs.1
  have z := Z.2 s (by omega)
  unfold mf_told cs_sval
  rw [rd_state A Z hn hl hs (R l hl trivial), ag_s A h1 (show 1 ≤ 3 by omega) (by omega) (by omega), ag_s A h1 (show 1 ≤ 4 by omega) (by omega) (by omega), ag_s A h1 (show 1 ≤ 5 by omega) (by omega) (by omega), ag_s A h1 (show 1 ≤ 2 by omega) (by omega) (by omega), ag_s A h1 (show 1 ≤ 6 by omega) (by omega) (by omega), ag_s A h1 (show 1 ≤ 8 by omega) (by omega) (by omega), b01 z.1, b01 z.2.1]
theorem rd_tl (I : Iv B N n m) {l : Nat} {w : Int32} (hl : l < n) : mf_tl N m l w = cs_lval B m l w := by
  obtain ⟨G, Z, A, L, R, zz, dd⟩ := I
  have hn := G.2.1
  have hm := G.2.2.2.1
  have z := Z.1 l (by omega)
  unfold mf_tl cs_lval
  rw [rd_mem A hm, ag_l A hl (show 1 ≤ 1 by omega) (by omega), ag_l A hl (show 1 ≤ 2 by omega) (by omega), ag_l A hl (show 1 ≤ 3 by omega) (by omega), ag_l A hl (show 1 ≤ 4 by omega) (by omega), ag_l A hl (show 1 ≤ 5 by omega) (by omega), ag_l A hl (show 1 ≤ 6 by omega) (by omega), ag_l A hl (show 1 ≤ 7 by omega) (by omega), ag_l A hl (show 1 ≤ 8 by omega) (by omega), b01 z.1, b01 z.2]
theorem tcl_pos {c : Int32} (h1 : 1 ≤ c) (h2 : c ≤ 14) : tc_len c = 5 ∨ tc_len c = 7 ∨ tc_len c = 9 ∨ tc_len c = 11 ∨ tc_len c = 13 ∨ tc_len c = 15 := by
  obtain ⟨k, k1, k2, rfl⟩ := code_nat h1 h2
  have key : ∀ k, k < 15 → 1 ≤ k → (tc_len (nI k) = 5 ∨ tc_len (nI k) = 7 ∨ tc_len (nI k) = 9 ∨ tc_len (nI k) = 11 ∨ tc_len (nI k) = 13 ∨ tc_len (nI k) = 15) := by decide
  exact key k (by omega) k1
theorem snd_neg {c t : Int32} (h1 : 1 ≤ c) (h2 : c ≤ 14) (ht : t < 0) : tc_snd c t = 0 := by
  have q : ∀ k : Int32, 0 ≤ k → t < k := fun k hk => Int32.lt_of_lt_of_le ht hk
  have t2 : t < 2 := q 2 (by decide)
  have t4 : t < 4 := q 4 (by decide)
  have t6 : t < 6 := q 6 (by decide)
  have t8 : t < 8 := q 8 (by decide)
  obtain ⟨k, k1, k2, rfl⟩ := code_nat h1 h2
  have hk : k = 1 ∨ k = 2 ∨ k = 3 ∨ k = 4 ∨ k = 5 ∨ k = 6 ∨ k = 7 ∨ k = 8 ∨ k = 9 ∨ k = 10 ∨ k = 11 ∨ k = 12 ∨ k = 13 ∨ k = 14 := by omega
  unfold tc_snd
  rcases hk with rfl | rfl | rfl | rfl | rfl | rfl | rfl | rfl | rfl | rfl | rfl | rfl | rfl | rfl
  · rw [if_pos (by decide)]; simp [tc_s1, ht]
  · rw [if_neg (by decide), if_pos (by decide)]; simp [tc_s2, ht]
  · rw [if_neg (by decide), if_neg (by decide), if_pos (by decide)]; simp [tc_s3, ht, t2]
  · rw [if_neg (by decide), if_neg (by decide), if_neg (by decide), if_pos (by decide)]; simp [tc_s4, ht, t2]
  · rw [if_neg (by decide), if_neg (by decide), if_neg (by decide), if_neg (by decide), if_pos (by decide)]; simp [tc_s5, ht, t4]
  · rw [if_neg (by decide), if_neg (by decide), if_neg (by decide), if_neg (by decide), if_neg (by decide), if_pos (by decide)]; simp [tc_s6, ht, t4]
  · rw [if_neg (by decide), if_neg (by decide), if_neg (by decide), if_neg (by decide), if_neg (by decide), if_neg (by decide), if_pos (by decide)]; simp [tc_s7, ht, t2, t4]
  · rw [if_neg (by decide), if_neg (by decide), if_neg (by decide), if_neg (by decide), if_neg (by decide), if_neg (by decide), if_neg (by decide), if_pos (by decide)]; simp [tc_s8, ht, t2, t4]
  · rw [if_neg (by decide), if_neg (by decide), if_neg (by decide), if_neg (by decide), if_neg (by decide), if_neg (by decide), if_neg (by decide), if_neg (by decide), if_pos (by decide)]; simp [tc_s9, ht, t2, t6]
  · rw [if_neg (by decide), if_neg (by decide), if_neg (by decide), if_neg (by decide), if_neg (by decide), if_neg (by decide), if_neg (by decide), if_neg (by decide), if_neg (by decide), if_pos (by decide)]; simp [tc_s10, ht, t2, t6]
  · rw [if_neg (by decide), if_neg (by decide), if_neg (by decide), if_neg (by decide), if_neg (by decide), if_neg (by decide), if_neg (by decide), if_neg (by decide), if_neg (by decide), if_neg (by decide), if_pos (by decide)]; simp [tc_s11, ht, t4, t6]
  · rw [if_neg (by decide), if_neg (by decide), if_neg (by decide), if_neg (by decide), if_neg (by decide), if_neg (by decide), if_neg (by decide), if_neg (by decide), if_neg (by decide), if_neg (by decide), if_neg (by decide), if_pos (by decide)]; simp [tc_s12, ht, t4, t6]
  · rw [if_neg (by decide), if_neg (by decide), if_neg (by decide), if_neg (by decide), if_neg (by decide), if_neg (by decide), if_neg (by decide), if_neg (by decide), if_neg (by decide), if_neg (by decide), if_neg (by decide), if_neg (by decide), if_pos (by decide)]; simp [tc_s13, ht, t4, t8]
  · rw [if_neg (by decide), if_neg (by decide), if_neg (by decide), if_neg (by decide), if_neg (by decide), if_neg (by decide), if_neg (by decide), if_neg (by decide), if_neg (by decide), if_neg (by decide), if_neg (by decide), if_neg (by decide), if_neg (by decide), if_pos (by decide)]; simp [tc_s14, ht, t4, t8]
theorem rd_hear (I : Iv B N n m) {l : Nat} (hl : l < n) : mf_hear N l = cs_sound B m l := by
  obtain ⟨G, Z, A, L, R, zz, dd⟩ := I
  have hn := G.2.1
  have hm := G.2.2.2.1
  obtain ⟨a, b0, b1, b2, b3, b4, b5, b6, b7, b8⟩ := L l hl trivial
  have n1 : N (20 * l + 1) = B (20 * l + 1) := ag_l A hl (by omega) (by omega)
  have n2 : N (20 * l + 2) = B (20 * l + 2) := ag_l A hl (by omega) (by omega)
  have n3 : N (20 * l + 3) = B (20 * l + 3) := ag_l A hl (by omega) (by omega)
  have n4 : N (20 * l + 4) = B (20 * l + 4) := ag_l A hl (by omega) (by omega)
  unfold mf_hear mf_hr cs_sound cs_rung
  rw [n1, n2, n3, n4]
  by_cases p3 : B (20 * l + 1) = 3
  · obtain ⟨⟨f, f1, f2⟩, h4, _⟩ := b3 p3
    have hf := (in_iff.1 f1).1.1
    have gc := G.2.2.2.2.2 f hf
    rw [if_pos p3, if_pos p3, if_neg (show ¬ (1 : Int32) = 0 by decide), f2, nt_nI (by omega), ag_s A hf (by omega) (by omega) (by omega)]
    have er : cs_tround B m l = tc_len (B (101 + 8 * f + 3)) := by
      unfold cs_tround
      rw [h4, tcode_n, tcode_s hm f2 hf]; simp
    have pos : tc_len (B (101 + 8 * f + 3)) > 0 := by
      rcases tcl_pos gc.1 gc.2 with h | h | h | h | h | h <;> rw [h] <;> decide
    simp only [er, h4, tcode_n, lk_m1, lk_nI hf hm]
    rw [if_pos pos]
    by_cases t : B (20 * l + 2) - B (20 * l + 2) / tc_len (B (101 + 8 * f + 3)) * tc_len (B (101 + 8 * f + 3)) ≥ 0
    · rw [if_pos t]; simp
    · rw [if_neg t]
      exact snd_neg gc.1 gc.2 (Int32.not_le.mp t)
  · rw [if_neg p3, if_neg p3]
    by_cases p7 : B (20 * l + 1) = 7
    · obtain ⟨⟨f, f1, f2⟩, ⟨q, q1, q2⟩, _⟩ := b7 p7
      have hf := (in_iff.1 f1).1.1
      have hq := (in_iff.1 q1).1.1
      have gf := G.2.2.2.2.2 f hf
      have gq := G.2.2.2.2.2 q hq
      rw [if_pos p7, if_pos p7, if_neg (show ¬ (1 : Int32) = 0 by decide), f2, q2, nt_nI (by omega), nt_nI (by omega), ag_s A hf (by omega) (by omega) (by omega), ag_s A hq (by omega) (by omega) (by omega)]
      have er : cs_tround B m l = tc_len (B (101 + 8 * f + 3)) + tc_len (B (101 + 8 * q + 3)) := by
        unfold cs_tround
        rw [tcode_s hm q2 hq, tcode_s hm f2 hf, Int32.add_comm]
      have pos : tc_len (B (101 + 8 * f + 3)) + tc_len (B (101 + 8 * q + 3)) > 0 := by
        rcases tcl_pos gf.1 gf.2 with h | h | h | h | h | h <;> rcases tcl_pos gq.1 gq.2 with h2 | h2 | h2 | h2 | h2 | h2 <;> rw [h, h2] <;> decide
      simp only [er, tcode_s hm rfl hq, lk_nI hf hm, lk_nI hq hm]
      rw [if_pos pos]
    · rw [if_neg p7, if_neg p7, if_pos rfl]
theorem rd_mixl (I : Iv B N n m) {l : Nat} (hl : l < n) : mf_mixl N m l = cs_mixl B m l := by
  have A := I.2.2.1
  have hm := I.1.2.2.2.1
  unfold mf_mixl cs_mixl
  simp only [rd_tl I hl, rd_hear I hl, rd_cost A hm]
  rw [ag_l A hl (show 1 ≤ 9 by omega) (by omega), ag_l A hl (show 1 ≤ 10 by omega) (by omega), ag_l A hl (show 1 ≤ 11 by omega) (by omega), ag_l A hl (show 1 ≤ 12 by omega) (by omega), ag_l A hl (show 1 ≤ 13 by omega) (by omega), ag_l A hl (show 1 ≤ 14 by omega) (by omega), ag_l A hl (show 1 ≤ 15 by omega) (by omega), ag_l A hl (show 1 ≤ 16 by omega) (by omega), ag_l A hl (show 1 ≤ 17 by omega) (by omega), ag_l A hl (show 1 ≤ 18 by omega) (by omega), ag_l A hl (show 1 ≤ 19 by omega) (by omega), ag_l A hl (show 1 ≤ 20 by omega) (by omega)]
theorem rd_mixs (I : Iv B N n m) {s : Nat} (hs : s < m) : mf_mixs N (hm N s) s = cs_mixs B (hm B s) s := by
  obtain ⟨l, hl, hh⟩ := I.1.2.2.2.2.1 s hs
  have hn := I.1.2.1
  rw [rd_hm I.2.2.1 hs, hm_of hh (by omega)]
  unfold mf_mixs cs_mixs
  simp only [rd_told I hl ⟨hs, hh⟩]
theorem dgl_eq (I : Iv B N n m) : ∀ (k i : Nat) (h : Int64), i + k = 5 → i ≤ n → rf_dgl N m (n - i) i h = cs_dgl B n m k i h
  | 0, i, h, hk, hi => by
    have := I.1.2.1
    have e : n - i = 0 := by omega
    rw [e]; rfl
  | k + 1, i, h, hk, hi => by
    unfold cs_dgl
    by_cases q : i < n
    · obtain ⟨d, hd⟩ : ∃ d, n - i = d + 1 := ⟨n - i - 1, by omega⟩
      have e : n - (i + 1) = d := by omega
      rw [if_pos q, hd, rf_dgl, rd_mixl I q, ← e]
      exact dgl_eq I k (i + 1) _ (by omega) (by omega)
    · have e : n - i = 0 := by omega
      rw [if_neg q, e]
      have nochange : ∀ (k i : Nat) (h : Int64), n ≤ i → cs_dgl B n m k i h = h := fun k => by
        induction k with
        | zero => intro i h _; rfl
        | succ k ih => intro i h hi; rw [cs_dgl, if_neg (by omega)]; exact ih (i + 1) h (by omega)
      rw [nochange k (i + 1) h (by omega)]; rfl
theorem dgs_eq (I : Iv B N n m) : ∀ (k i : Nat) (h : Int64), i + k = 16 → i ≤ m → rf_dgs N (m - i) i h = cs_dgs B m k i h
  | 0, i, h, hk, hi => by
    have := I.1.2.2.2.1
    have e : m - i = 0 := by omega
    rw [e]; rfl
  | k + 1, i, h, hk, hi => by
    unfold cs_dgs
    by_cases q : i < m
    · obtain ⟨d, hd⟩ : ∃ d, m - i = d + 1 := ⟨m - i - 1, by omega⟩
      have e : m - (i + 1) = d := by omega
      rw [if_pos q, hd, rf_dgs, rd_mixs I q, ← e]
      exact dgs_eq I k (i + 1) _ (by omega) (by omega)
    · have e : m - i = 0 := by omega
      rw [if_neg q, e]
      have nochange : ∀ (k i : Nat) (h : Int64), m ≤ i → cs_dgs B m k i h = h := fun k => by
        induction k with
        | zero => intro i h _; rfl
        | succ k ih => intro i h hi; rw [cs_dgs, if_neg (by omega)]; exact ih (i + 1) h (by omega)
      rw [nochange k (i + 1) h (by omega)]; rfl
theorem rd_digest (I : Iv B N n m) {c : Nat} : rf_dg N n m c 1857 = cs_digest B n m c := by
  have A := I.2.2.1
  unfold rf_dg cs_digest cs_dg2
  have e1 := dgl_eq I 5 0 (mx 1857 (nI n)) (by decide) (Nat.zero_le n)
  rw [Nat.sub_zero] at e1
  rw [e1]
  have e2 := dgs_eq I 16 0 (mx (cs_dgl B n m 5 0 (mx 1857 (nI n))) (nI m)) (by decide) (Nat.zero_le m)
  rw [Nat.sub_zero] at e2
  rw [e2]
  unfold rf_dg1 cs_dg1
  rw [A 230 (us_c (by decide) (by decide)), A 231 (us_c (by decide) (by decide)), A 232 (us_c (by decide) (by decide)), A 233 (us_c (by decide) (by decide)), A 234 (us_c (by decide) (by decide)), A 235 (us_c (by decide) (by decide)), A 236 (us_c (by decide) (by decide))]
end
/-! the tests -/
theorem dpT_congr {R S : Nat → Int32} (h : ∀ k, 1 ≤ k → k ≤ 12 → R k = S k) : ∀ (n d a : Nat), 1 ≤ a → a + d ≤ 12 → dpT R n d a = dpT S n d a
  | 0, _, _, _, _ => rfl
  | n + 1, d, a, h1, h2 => by
    have e : dpv (dpT R n) d a = dpv (dpT S n) d a := by
      unfold dpv
      refine dpf_congr _ _ _ _ (fun j g1 g2 => ?_)
      show dpT R n (j - a) a + dpT R n (a + d - (j + 1)) (j + 1) = dpT S n (j - a) a + dpT S n (a + d - (j + 1)) (j + 1)
      rw [dpT_congr h n (j - a) a h1 (by omega), dpT_congr h n (a + d - (j + 1)) (j + 1) (by omega) (by omega)]
    rw [dpT, dpT, e, h (a + d) (by omega) h2, sumF_congr d a (fun j g1 g2 => h j (by omega) (by omega)), dpT_congr h n d a h1 h2]
theorem dpD_congr {R S : Nat → Int32} (h : ∀ k, 1 ≤ k → k ≤ 12 → R k = S k) {d a : Nat} (h1 : 1 ≤ a) (h2 : a + d ≤ 12) : dpD R d a = dpD S d a := by
  unfold dpD dpv
  congr 1
  refine dpf_congr _ _ _ _ (fun j g1 g2 => ?_)
  show dpT R d (j - a) a + dpT R d (a + d - (j + 1)) (j + 1) = dpT S d (j - a) a + dpT S d (a + d - (j + 1)) (j + 1)
  rw [dpT_congr h d (j - a) a h1 (by omega), dpT_congr h d (a + d - (j + 1)) (j + 1) (by omega) (by omega)]
theorem rd_plan {R S : Nat → Int32} (h : ∀ k, 1 ≤ k → k ≤ 12 → R k = S k) {T U : TT} {a b : Nat} (h1 : 1 ≤ a) (h2 : a ≤ b) (h3 : b ≤ 12) : (cs_plan S 1 12 U).1 (13 * a + b) = (cs_plan R a b T).1 (13 * a + b) ∧ (cs_plan S 1 12 U).2 (13 * a + b) = (cs_plan R a b T).2 (13 * a + b) := by
  obtain ⟨p1, p2⟩ := plan_ok (R := R) T h3 h2 (Nat.le_refl a) h2 (Nat.le_refl b)
  obtain ⟨q1, q2⟩ := plan_ok (R := S) U (A := 1) (B := 12) (by decide) (by decide) h1 h2 h3
  exact ⟨by rw [p1, q1]; exact (dpT_congr h _ _ _ h1 (by omega)).symm, by rw [p2, q2]; exact (dpD_congr h h1 (by omega)).symm⟩
theorem find_congr {D E : Nat → Int32} {sp : Int32} (h : ∀ a b, 1 ≤ a → a ≤ b → b ≤ 12 → D (13 * a + b) = E (13 * a + b)) : ∀ (k i a b : Nat), 1 ≤ a → a ≤ b → b ≤ 12 → cs_find D sp k i a b = cs_find E sp k i a b
  | 0, _, _, _, _, _, _ => rfl
  | k + 1, i, a, b, h1, h2, h3 => by
    rw [cs_find, cs_find, h a b h1 h2 h3]
    by_cases c1 : nI a ≥ nI b
    · rw [if_pos c1, if_pos c1]
    · rw [if_neg c1, if_neg c1]
      by_cases c2 : E (13 * a + b) < nI a
      · rw [if_pos c2, if_pos c2]
      · rw [if_neg c2, if_neg c2]
        by_cases c3 : E (13 * a + b) < nI b
        · rw [if_pos c3, if_pos c3]
          have e : lk 16 (E (13 * a + b)) = some (E (13 * a + b)).toNatClampNeg ∧ a ≤ (E (13 * a + b)).toNatClampNeg ∧ (E (13 * a + b)).toNatClampNeg < b := by
            have c2' := Int32.not_lt.mp c2
            rw [Int32.le_iff_toInt_le] at c2'
            rw [Int32.lt_iff_toInt_lt] at c3
            have ea : (nI a).toInt = a := nI_toInt (by omega)
            have eb : (nI b).toInt = b := nI_toInt (by omega)
            have et : (E (13 * a + b)).toNatClampNeg = (E (13 * a + b)).toInt.toNat := rfl
            refine ⟨?_, by omega, by omega⟩
            unfold lk
            rw [if_neg (by rw [Int32.lt_iff_toInt_lt]; have e0 : (0 : Int32).toInt = 0 := rfl; omega), if_pos (by omega)]
          obtain ⟨_, e1, e2⟩ := e
          rw [find_congr h k (i + 1) _ b (by omega) (by omega) h3, find_congr h k (i + 1) a _ h1 e1 (by omega)]
        · rw [if_neg c3, if_neg c3]
