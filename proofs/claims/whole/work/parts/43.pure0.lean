/-! THE TWO ROWS: the class's row B and the reference's row N, n loops, m subscribers. First: folds -/
theorem sumF_congr {f g : Nat → Int32} : ∀ (k i : Nat), (∀ j, i ≤ j → j < i + k → f j = g j) → sumF f k i = sumF g k i
  | 0, _, _ => rfl
  | k + 1, i, h => by rw [sumF, sumF, h i (Nat.le_refl i) (by omega), sumF_congr k (i + 1) (fun j h1 h2 => h j (by omega) (by omega))]
theorem sumF_add (f : Nat → Int32) : ∀ (a b i : Nat), sumF f (a + b) i = sumF f a i + sumF f b (i + a)
  | 0, b, i => by simp [sumF]
  | a + 1, b, i => by
    rw [show a + 1 + b = (a + b) + 1 by omega, sumF, sumF_add f a b (i + 1), sumF, sumF_acc, show i + 1 + a = i + (a + 1) by omega]
theorem sumF_zero {f : Nat → Int32} : ∀ (k i : Nat), (∀ j, i ≤ j → j < i + k → f j = 0) → sumF f k i = 0
  | 0, _, _ => rfl
  | k + 1, i, h => by rw [sumF, h i (Nat.le_refl i) (by omega), sumF_zero k (i + 1) (fun j h1 h2 => h j (by omega) (by omega))]; decide
theorem sumF_cut {f g : Nat → Int32} {m M : Nat} (hm : m ≤ M) (h : ∀ j, j < m → f j = g j) (h0 : ∀ j, m ≤ j → g j = 0) : sumF f m 0 = sumF g M 0 := by
  obtain ⟨d, rfl⟩ : ∃ d, M = m + d := ⟨M - m, by omega⟩
  rw [sumF_add, sumF_congr m 0 (fun j _ h2 => h j (by omega)), sumF_zero d _ (fun j h1 _ => h0 j (by omega))]
  simp
theorem cntN_congr {f g : Nat → Bool} : ∀ (k i : Nat), (∀ j, i ≤ j → j < i + k → f j = g j) → cntN f k i = cntN g k i
  | 0, _, _ => rfl
  | k + 1, i, h => by rw [cntN, cntN, h i (Nat.le_refl i) (by omega), cntN_congr k (i + 1) (fun j h1 h2 => h j (by omega) (by omega))]
theorem cntN_add (f : Nat → Bool) : ∀ (a b i : Nat), cntN f (a + b) i = cntN f a i + cntN f b (i + a)
  | 0, b, i => by simp [cntN]
  | a + 1, b, i => by
    rw [show a + 1 + b = (a + b) + 1 by omega, cntN, cntN_add f a b (i + 1), cntN, show i + 1 + a = i + (a + 1) by omega]
    omega
theorem cntN_zero {f : Nat → Bool} : ∀ (k i : Nat), (∀ j, i ≤ j → j < i + k → f j = false) → cntN f k i = 0
  | 0, _, _ => rfl
  | k + 1, i, h => by rw [cntN, h i (Nat.le_refl i) (by omega), cntN_zero k (i + 1) (fun j h1 h2 => h j (by omega) (by omega))]; rfl
theorem cntN_cut {f g : Nat → Bool} {m M : Nat} (hm : m ≤ M) (h : ∀ j, j < m → f j = g j) (h0 : ∀ j, m ≤ j → g j = false) : cntN f m 0 = cntN g M 0 := by
  obtain ⟨d, rfl⟩ : ∃ d, M = m + d := ⟨M - m, by omega⟩
  rw [cntN_add, cntN_congr m 0 (fun j _ h2 => h j (by omega)), cntN_zero d _ (fun j h1 _ => h0 j (by omega))]
  omega
theorem anyF_iff {p : Nat → Bool} : ∀ (k i : Nat), anyF p k i = true ↔ ∃ j, i ≤ j ∧ j < i + k ∧ p j = true
  | 0, i => by
    constructor
    · intro h; cases h
    · rintro ⟨j, h1, h2, _⟩; omega
  | k + 1, i => by
    rw [anyF, Bool.or_eq_true, anyF_iff k (i + 1)]
    constructor
    · rintro (h | ⟨j, h1, h2, h3⟩)
      · exact ⟨i, Nat.le_refl i, by omega, h⟩
      · exact ⟨j, by omega, by omega, h3⟩
    · rintro ⟨j, h1, h2, h3⟩
      by_cases hj : j = i
      · subst hj; exact Or.inl h3
      · exact Or.inr ⟨j, by omega, by omega, h3⟩
theorem orF_01 {f : Nat → Int32} (hf : ∀ j, f j = 0 ∨ f j = 1) : ∀ (k i : Nat), orF f k i = 0 ∨ orF f k i = 1
  | 0, _ => Or.inl rfl
  | k + 1, i => by
    rw [orF]
    rcases hf i with h | h <;> rcases orF_01 hf k (i + 1) with h2 | h2 <;> rw [h, h2] <;> decide
theorem orF_0 {f : Nat → Int32} (hf : ∀ j, f j = 0 ∨ f j = 1) : ∀ (k i : Nat), orF f k i = 0 ↔ ∀ j, i ≤ j → j < i + k → f j = 0
  | 0, i => ⟨fun _ j h1 h2 => absurd h1 (by omega), fun _ => rfl⟩
  | k + 1, i => by
    rw [orF]
    have ih := orF_0 hf k (i + 1)
    constructor
    · intro h
      have hz : f i = 0 ∧ orF f k (i + 1) = 0 := by
        rcases hf i with h1 | h1 <;> rcases orF_01 hf k (i + 1) with h2 | h2
        · exact ⟨h1, h2⟩
        · rw [h1, h2] at h; exact absurd h (by decide)
        · rw [h1, h2] at h; exact absurd h (by decide)
        · rw [h1, h2] at h; exact absurd h (by decide)
      intro j h1 h2
      by_cases hj : j = i
      · subst hj; exact hz.1
      · exact ih.1 hz.2 j (by omega) (by omega)
    · intro h
      rw [h i (Nat.le_refl i) (by omega), ih.2 (fun j h1 h2 => h j (by omega) (by omega))]
      decide
/-! used cells, agreement -/
def us (n m x : Nat) : Prop := x = 0 ∨ (1 ≤ x ∧ x ≤ 20 * n) ∨ x = 101 ∨ (102 ≤ x ∧ x < 102 + 8 * m ∧ (x - 101) % 8 ≠ 7) ∨ (230 ≤ x ∧ x ≤ 236)
def ag (B N : Nat → Int32) (n m : Nat) : Prop := ∀ x, us n m x → N x = B x
theorem us_l {n m l k : Nat} (hl : l < n) (h1 : 1 ≤ k) (h2 : k ≤ 20) : us n m (20 * l + k) := by unfold us; omega
theorem us_s {n m s k : Nat} (hs : s < m) (h1 : 1 ≤ k) (h2 : k ≤ 8) (h7 : k ≠ 7) : us n m (101 + 8 * s + k) := by unfold us; omega
theorem us_c {n m k : Nat} (h1 : 230 ≤ k) (h2 : k ≤ 236) : us n m k := by unfold us; omega
theorem nus_7 {n m s : Nat} (hn : n ≤ 5) (hs : s < 16) : ¬ us n m (101 + 8 * s + 7) := by unfold us; omega
theorem ag_upd {B N : Nat → Int32} {n m : Nat} (h : ag B N n m) (x : Nat) (v : Int32) : ag (upd B x v) (upd N x v) n m := fun y hy => by
  by_cases e : y = x
  · subst e; rw [upd_self, upd_self]
  · rw [upd_ne _ _ e, upd_ne _ _ e]; exact h y hy
theorem ag_N {B N : Nat → Int32} {n m x : Nat} {v : Int32} (h : ag B N n m) (hx : ¬ us n m x) : ag B (upd N x v) n m := fun y hy => by
  have hne : y ≠ x := fun e => hx (e ▸ hy)
  rw [upd_ne _ _ hne]; exact h y hy
theorem ag_B {B N : Nat → Int32} {n m x : Nat} {v : Int32} (h : ag B N n m) (hx : ¬ us n m x) : ag (upd B x v) N n m := fun y hy => by
  have hne : y ≠ x := fun e => hx (e ▸ hy)
  rw [upd_ne _ _ hne]; exact h y hy
theorem ag_comes {B N : Nat → Int32} {n m l : Nat} {p f q e : Int32} (h : ag B N n m) : ag (mf_comes B l p f q e) (mf_comes N l p f q e) n m := by
  unfold mf_comes
  exact ag_upd (ag_upd (ag_upd (ag_upd (ag_upd (ag_upd h _ _) _ _) _ _) _ _) _ _) _ _
theorem ag_inc {B N : Nat → Int32} {n m k : Nat} (h : ag B N n m) (h1 : 230 ≤ k) (h2 : k ≤ 236) : ag (cs_inc B k) (cs_inc N k) n m := by
  unfold cs_inc
  rw [h k (us_c h1 h2)]
  exact ag_upd h _ _
/-- the class's comeTo, as the reference writes it -/
theorem comeTo_eq (B : Nat → Int32) (l : Nat) (p : Int32) : cs_comeTo B l p = mf_comes B l p (if p = 0 then -1 else B (20 * l + 3)) (if p ≥ 6 then B (20 * l + 4) else -1) (if p < 2 then -1 else if p ≤ 4 then B (20 * l + 5) else -1) := by
  funext x
  simp only [cs_comeTo, mf_comes]
  by_cases h1 : x = 20 * l + 1
  · subst h1; split <;> split <;> split <;> (try split) <;> simp [upd]
  · by_cases h2 : x = 20 * l + 2
    · subst h2; split <;> split <;> split <;> (try split) <;> simp [upd]
    · by_cases h3 : x = 20 * l + 3
      · subst h3; split <;> split <;> split <;> (try split) <;> simp [upd]
      · by_cases h4 : x = 20 * l + 4
        · subst h4; split <;> split <;> split <;> (try split) <;> simp [upd]
        · by_cases h5 : x = 20 * l + 5
          · subst h5; split <;> split <;> split <;> (try split) <;> simp [upd]
          · by_cases h6 : x = 20 * l + 6
            · subst h6; split <;> split <;> split <;> (try split) <;> simp [upd]
            · split <;> split <;> split <;> (try split) <;> simp [upd, h1, h2, h3, h4, h5, h6]
section
variable (B : Nat → Int32) (l : Nat) (p f q e : Int32)
theorem co1 : mf_comes B l p f q e (20 * l + 1) = p := by simp [mf_comes, upd]
theorem co2 : mf_comes B l p f q e (20 * l + 2) = 0 := by simp [mf_comes, upd]
theorem co3 : mf_comes B l p f q e (20 * l + 3) = f := by simp [mf_comes, upd]
theorem co4 : mf_comes B l p f q e (20 * l + 4) = q := by simp [mf_comes, upd]
theorem co5 : mf_comes B l p f q e (20 * l + 5) = e := by simp [mf_comes, upd]
theorem co6 : mf_comes B l p f q e (20 * l + 6) = 0 := by simp [mf_comes, upd]
end
/-! what the two rows both read -/
section
variable {B N : Nat → Int32} {n m : Nat}
theorem ag_l (A : ag B N n m) {l k : Nat} (hl : l < n) (h1 : 1 ≤ k) (h2 : k ≤ 20) : N (20 * l + k) = B (20 * l + k) := A _ (us_l hl h1 h2)
theorem ag_s (A : ag B N n m) {s k : Nat} (hs : s < m) (h1 : 1 ≤ k) (h2 : k ≤ 8) (h7 : k ≠ 7) : N (101 + 8 * s + k) = B (101 + 8 * s + k) := A _ (us_s hs h1 h2 h7)
theorem ag_cg (A : ag B N n m) (G : cg B n m) : cg N n m := by
  obtain ⟨g1, g2, g3, g4, g5, g6⟩ := G
  refine ⟨(A 0 (Or.inl rfl)).trans g1, g2, (A 101 (by unfold us; omega)).trans g3, g4, fun s hs => ?_, fun s hs => ?_⟩
  · rw [ag_s A hs (by omega) (by omega) (by omega)]; exact g5 s hs
  · rw [ag_s A hs (by omega) (by omega) (by omega)]; exact g6 s hs
theorem rd_hm (A : ag B N n m) {s : Nat} (hs : s < m) : hm N s = hm B s := by
  unfold hm
  rw [ag_s A hs (by omega) (by omega) (by omega)]
theorem rd_cut (A : ag B N n m) (Z : bz B) (hn : n ≤ 5) {l s : Nat} (hl : l < n) (hs : s < m) : mf_cut N l s = cs_cuts B l s := by
  unfold mf_cut cs_cuts cs_flt
  rw [ag_l A hl (by omega) (by omega), ag_l A hl (by omega) (by omega), ag_s A hs (by omega) (by omega) (by omega)]
  by_cases h : B (20 * l + 7) = -1
  · simp [h]
  · rw [if_neg h, if_neg h]
    rcases (Z.1 l (by omega)).2 with h2 | h2 <;> simp [h2]
theorem rd_rung (A : ag B N n m) {l : Nat} (hl : l < n) : mf_rung N l = cs_rung B l := by
  unfold mf_rung cs_rung
  rw [ag_l A hl (by omega) (by omega)]
/-- who is there and not cut off; who is on -/
def cs_in (B : Nat → Int32) (m l i : Nat) : Bool := decide (mem B m l i) && decide (cs_cuts B l i = 0)
theorem on_iff {l s : Nat} : cs_on B m l s = true ↔ mem B m l s ∧ B (101 + 8 * s + 6) ≠ 0 ∧ cs_cuts B l s = 0 := by
  simp [cs_on]
theorem in_iff {l s : Nat} : cs_in B m l s = true ↔ mem B m l s ∧ cs_cuts B l s = 0 := by
  simp [cs_in]
theorem rd_on (A : ag B N n m) (Z : bz B) (hn : n ≤ 5) (hm16 : m ≤ 16) {l s : Nat} (hl : l < n) (hs : s < m) : mf_on N l s = if cs_on B m l s = true then 1 else 0 := by
  unfold mf_on
  rw [ag_s A hs (by omega) (by omega) (by omega), ag_s A hs (by omega) (by omega) (by omega), rd_cut A Z hn hl hs]
  by_cases h1 : B (101 + 8 * s + 1) = nI l
  · rcases (Z.2 s (by omega)).2.1 with h2 | h2
    · simp [cs_on, mem, h1, h2]
    · by_cases h3 : cs_cuts B l s = 0
      · simp [cs_on, mem, h1, h2, h3, hs]
      · simp [cs_on, mem, h1, h2, h3]
  · simp [cs_on, mem, h1]
theorem rd_tk (A : ag B N n m) (hm16 : m ≤ 16) {l : Nat} {c b : Int32} (hl : l < n) : (orF (mf_tk N l c b) m 0 = 0) ↔ cs_hasC B m l c b = 0 := by
  have h01 : ∀ j, mf_tk N l c b j = 0 ∨ mf_tk N l c b j = 1 := fun j => by unfold mf_tk; split <;> (try split) <;> (try split) <;> simp
  rw [orF_0 h01]
  unfold cs_hasC
  constructor
  · intro h
    rw [if_neg]
    intro h2
    obtain ⟨j, h3, h4, h5⟩ := (anyF_iff 16 0).1 h2
    simp only [cs_has, Bool.and_eq_true, decide_eq_true_eq] at h5
    obtain ⟨⟨h6, h7⟩, h8, h9⟩ := h5
    have := h j (by omega) (by omega)
    unfold mf_tk at this
    rw [if_neg h9, ag_s A h6 (by omega) (by omega) (by omega), if_pos h7, ag_s A h6 (by omega) (by omega) (by omega), if_pos h8] at this
    exact absurd this (by decide)
  · intro h j _ hj
    have hj : j < m := by omega
    rcases h01 j with h1 | h1
    · exact h1
    · exfalso
      have h2 : anyF (cs_has B m l c b) 16 0 = true := by
        rw [anyF_iff]
        refine ⟨j, by omega, by omega, ?_⟩
        unfold mf_tk at h1
        rw [ag_s A hj (by omega) (by omega) (by omega), ag_s A hj (by omega) (by omega) (by omega)] at h1
        by_cases a : nI j = b
        · rw [if_pos a] at h1; exact absurd h1 (by decide)
        · rw [if_neg a] at h1
          by_cases b2 : B (101 + 8 * j + 1) = nI l
          · rw [if_pos b2] at h1
            by_cases c2 : B (101 + 8 * j + 3) = c
            · simp [cs_has, mem, hj, b2, c2, a]
            · rw [if_neg c2] at h1; exact absurd h1 (by decide)
          · rw [if_neg b2] at h1; exact absurd h1 (by decide)
      rw [if_pos h2] at h
      exact absurd h (by decide)
theorem rd_mem (A : ag B N n m) (hm16 : m ≤ 16) {l : Nat} : sumF (mf_mem N l) m 0 = sumF (cs_mem B m l) 16 0 := by
  refine sumF_cut hm16 (fun j hj => ?_) (fun j hj => ?_)
  · unfold mf_mem cs_mem
    rw [ag_s A hj (by omega) (by omega) (by omega)]
    by_cases h : B (101 + 8 * j + 1) = nI l <;> simp [mem, h, hj]
  · unfold cs_mem
    rw [if_neg (fun h => absurd h.1 (by omega))]
theorem rd_cost (A : ag B N n m) (hm16 : m ≤ 16) {l : Nat} : sumF (mf_cost N l) m 0 = sumF (cs_cost B m l) 16 0 := by
  refine sumF_cut hm16 (fun j hj => ?_) (fun j hj => ?_)
  · unfold mf_cost cs_cost
    rw [ag_s A hj (by omega) (by omega) (by omega), ag_s A hj (by omega) (by omega) (by omega), ag_s A hj (by omega) (by omega) (by omega)]
    by_cases h : B (101 + 8 * j + 1) = nI l <;> simp [mem, h, hj]
  · unfold cs_cost
    rw [if_neg (fun h => absurd h.1 (by omega))]
theorem rd_use (A : ag B N n m) (hn : n ≤ 5) : sumF (mf_use N) n 0 = sumF (cs_use B n) 5 0 := by
  refine sumF_cut hn (fun j hj => ?_) (fun j hj => ?_)
  · unfold mf_use cs_use
    rw [ag_l A hj (by omega) (by omega)]
    by_cases h : B (20 * j + 1) = 0 <;> simp [h, hj]
  · unfold cs_use
    rw [if_neg (fun h => absurd h.1 (by omega))]
theorem rd_rank (A : ag B N n m) (hm16 : m ≤ 16) {l s : Nat} (hs : s < m) : cntN (mf_ah N l s) m 0 = cs_rank B m l s := by
  refine cntN_cut hm16 (fun j hj => ?_) (fun j hj => ?_)
  · rw [Bool.eq_iff_iff]
    have e : mf_bf N j s = cs_bef B j s := by
      unfold mf_bf cs_bef
      rw [ag_s A hj (by omega) (by omega) (by omega), ag_s A hs (by omega) (by omega) (by omega)]
      by_cases h1 : B (101 + 8 * j + 5) > B (101 + 8 * s + 5)
      · rw [if_pos h1, if_pos h1]
      · rw [if_neg h1, if_neg h1]
        by_cases h2 : B (101 + 8 * j + 5) = B (101 + 8 * s + 5) <;> simp [h2]
    simp [mf_ah, cs_ahead, mem, e, hj, ag_s A hj (show 1 ≤ 1 by omega) (by omega) (by omega)]
  · simp [cs_ahead, mem]
    omega
theorem rd_least (A : ag B N n m) (hm16 : m ≤ 16) {l : Nat} : sumF (mf_least N m l) m 0 = sumF (cs_least B m l) 16 0 := by
  refine sumF_cut hm16 (fun j hj => ?_) (fun j hj => ?_)
  · unfold mf_least cs_least
    rw [rd_rank A hm16 hj, ag_s A hj (by omega) (by omega) (by omega), ag_s A hj (by omega) (by omega) (by omega)]
    by_cases h : B (101 + 8 * j + 1) = nI l <;> simp [mem, h, hj]
  · unfold cs_least
    rw [if_neg (fun h => absurd h.1 (by omega))]
theorem rd_pv (A : ag B N n m) (Z : bz B) (hm16 : m ≤ 16) {x : Int32} : mf_pv N m x = cs_wants B m x := by
  unfold mf_pv cs_wants
  cases h : lk m x with
  | none => rfl
  | some e =>
    have he := (lk_some h).2
    show (if N (101 + 8 * e + 4) = 1 then (1 : Int32) else 0) = if B (101 + 8 * e + 4) = 0 then 0 else 1
    rw [ag_s A he (by omega) (by omega) (by omega)]
    rcases (Z.2 e (by omega)).1 with h2 | h2 <;> simp [h2]
end
