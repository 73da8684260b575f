/-! leaving a loop, ending a call: class and reference go together -/
def LPs (B : Nat → Int32) (n m : Nat) (P : Nat → Prop) : Prop := ∀ l, l < n → P l → lpc B (cs_on B m) (cs_in B m) n l
def RLs (B N : Nat → Int32) (n m : Nat) (P : Nat → Prop) : Prop := ∀ l, l < n → P l → rlo B N m l
theorem bz_upd {B : Nat → Int32} {x : Nat} {v : Int32} (Z : bz B) (h : (v = 0 ∨ v = 1) ∨ ((∀ l, l < 5 → x ≠ 20 * l + 6 ∧ x ≠ 20 * l + 8) ∧ ∀ s, s < 16 → x ≠ 101 + 8 * s + 4 ∧ x ≠ 101 + 8 * s + 6 ∧ x ≠ 101 + 8 * s + 7)) : bz (upd B x v) := by
  have key : ∀ y, (B y = 0 ∨ B y = 1) → ((v = 0 ∨ v = 1) ∨ x ≠ y) → (upd B x v y = 0 ∨ upd B x v y = 1) := fun y hy hv => by
    by_cases e : y = x
    · subst e; rw [upd_self]; exact hv.resolve_right (fun h => h rfl)
    · rw [upd_ne _ _ e]; exact hy
  refine ⟨fun l hl => ⟨key _ (Z.1 l hl).1 (h.imp id (fun q => (q.1 l hl).1)), key _ (Z.1 l hl).2 (h.imp id (fun q => (q.1 l hl).2))⟩, fun s hs => ⟨key _ (Z.2 s hs).1 (h.imp id (fun q => (q.2 s hs).1)), key _ (Z.2 s hs).2.1 (h.imp id (fun q => (q.2 s hs).2.1)), key _ (Z.2 s hs).2.2 (h.imp id (fun q => (q.2 s hs).2.2))⟩⟩
theorem bz_comes {B : Nat → Int32} {l : Nat} {p f q e : Int32} (hl : l < 5) (Z : bz B) : bz (mf_comes B l p f q e) := by
  unfold mf_comes
  refine bz_upd (bz_upd (bz_upd (bz_upd (bz_upd (bz_upd Z ?_) ?_) ?_) ?_) ?_) (Or.inl (Or.inl rfl))
  · exact Or.inr ⟨fun _ _ => ⟨by omega, by omega⟩, fun _ _ => ⟨by omega, by omega, by omega⟩⟩
  · exact Or.inl (Or.inl rfl)
  · exact Or.inr ⟨fun _ _ => ⟨by omega, by omega⟩, fun _ _ => ⟨by omega, by omega, by omega⟩⟩
  · exact Or.inr ⟨fun _ _ => ⟨by omega, by omega⟩, fun _ _ => ⟨by omega, by omega, by omega⟩⟩
  · exact Or.inr ⟨fun _ _ => ⟨by omega, by omega⟩, fun _ _ => ⟨by omega, by omega, by omega⟩⟩
theorem nI_inj {a b : Nat} (h : nI a = nI b) (ha : a < 2 ^ 31) (hb : b < 2 ^ 31) : a = b := (nI_eq ha hb).1 h
theorem bz_unl {m l : Nat} : ∀ (k i : Nat) (B : Nat → Int32), bz B → bz (cs_unl m l k i B)
  | 0, _, _, Z => Z
  | k + 1, i, B, Z => by
    unfold cs_unl
    split
    · exact bz_unl k (i + 1) _ (bz_upd Z (Or.inl (Or.inl rfl)))
    · exact bz_unl k (i + 1) _ Z
theorem sm_unl {B : Nat → Int32} {m l : Nat} (hm : m ≤ 16) : sm B (cs_unl m l 16 0 B) m := by
  have h := (unl_ch (m := m) (l := l) 16 0 B).1
  have key : ∀ x, (∀ s, x ≠ 101 + 8 * s + 7) → cs_unl m l 16 0 B x = B x := fun x hx => (h x).resolve_right (fun ⟨s, _, e⟩ => hx s e)
  exact ⟨fun s hs => ⟨key _ (fun t => by omega), key _ (fun t => by omega), key _ (fun t => by omega)⟩, fun l2 h2 => ⟨key _ (fun t => by omega), key _ (fun t => by omega)⟩⟩
theorem leave_eq {B : Nat → Int32} {m l : Nat} (hm : m ≤ 16) (hl : l < 5) : cs_leave B m l = mf_comes (cs_unl m l 16 0 B) l (if cs_low B m l = -1 then 0 else 5) (cs_low B m l) (-1) (-1) := by
  have e : cs_low (cs_unl m l 16 0 B) m l = cs_low B m l := by
    have : ∀ k i, cs_lowF (cs_unl m l 16 0 B) m l k i = cs_lowF B m l k i := fun k => by
      induction k with
      | zero => intro i; rfl
      | succ k ih => intro i; rw [cs_lowF, cs_lowF, sm_on (sm_unl hm) hl, ih]
    exact this 16 0
  unfold cs_leave
  rw [e]
  unfold cs_cw
  rw [comeTo_eq]
  by_cases h : cs_low B m l = -1
  · rw [if_pos h, h]
    funext x
    simp [mf_comes, upd]
    by_cases h3 : x = 20 * l + 3 <;> simp [h3]
  · rw [if_neg h, if_neg (show ¬ (5 : Int32) = 0 by decide), if_neg (show ¬ (5 : Int32) ≥ 6 by decide), if_neg (show ¬ (5 : Int32) < 2 by decide), if_neg (show ¬ (5 : Int32) ≤ 4 by decide), upd_self]
    funext x
    simp only [mf_comes, upd]
    by_cases h3 : x = 20 * l + 3 <;> simp [h3]
theorem ag_lv {B N : Nat → Int32} {n m l k : Nat} {f : Int32} (hn : n ≤ 5) (hl : l < 5) (hk : k ≤ 16) (A : ag B N n m) : ag B (mf_lv l k N f).1 n m := fun x hx => by
  rcases (lv_ch hl k N f).1 x with h | ⟨s, h1, _, h3⟩
  · rw [h]; exact A x hx
  · subst h3; exact absurd hx (nus_7 hn (by omega))
theorem ag_unl {B N : Nat → Int32} {n m l : Nat} (hn : n ≤ 5) (hm : m ≤ 16) (A : ag B N n m) : ag (cs_unl m l 16 0 B) N n m := fun x hx => by
  rcases (unl_ch (m := m) (l := l) 16 0 B).1 x with h | ⟨s, h1, h3⟩
  · rw [h]; exact A x hx
  · subst h3; exact absurd hx (nus_7 hn (by have := h1.1; omega))
/-- the reference's first is the class's lowest -/
theorem lv_low {B N : Nat → Int32} {n m l : Nat} (hn : n ≤ 5) (hm : m ≤ 16) (hl : l < n) (Z : bz B) (A : ag B N n m) : (mf_lv l m N (-1)).2 = cs_low B m l := by
  have on : ∀ s, s < m → (mf_on N l s ≠ 0 ↔ cs_on B m l s = true) := fun s hs => by
    rw [rd_on A Z hn hm hl hs]
    by_cases h : cs_on B m l s = true <;> simp [h]
  rcases (lv_ch (show l < 5 by omega) m N (-1)).2.2 with ⟨h1, h2⟩ | ⟨s, h1, h2, h3, h4⟩
  · rcases low_ch (B := B) (m := m) (l := l) hm with ⟨g1, g2⟩ | ⟨t, g1, g2, g3, g4⟩
    · rw [h1, g1]
    · exact absurd (h2 t g1) ((on t g1).2 g3)
  · rcases low_ch (B := B) (m := m) (l := l) hm with ⟨g1, g2⟩ | ⟨t, g1, g2, g3, g4⟩
    · have := (on s h1).1 h3
      rw [g2 s] at this; cases this
    · have hst : s = t := by
        rcases Nat.lt_trichotomy s t with q | q | q
        · have := (on s h1).1 h3
          rw [g4 s q] at this; cases this
        · exact q
        · exact absurd (h4 t q) ((on t g1).2 g3)
      rw [h2, g2, hst]
theorem E_leave {B N : Nat → Int32} {n m l : Nat} (hn : n ≤ 5) (hm : m ≤ 16) (hl : l < n) (Z : bz B) (A : ag B N n m) (hL : LPs B n m (· ≠ l)) (hX : ∀ l2, l2 < n → l2 ≠ l → B (20 * l2 + 5) ≠ nI l) (hR : RLs B N n m (· ≠ l)) : ag (cs_leave B m l) (mf_leave N m l) n m ∧ sm B (cs_leave B m l) m ∧ LPs (cs_leave B m l) n m (fun _ => True) ∧ RLs (cs_leave B m l) (mf_leave N m l) n m (fun _ => True) := by
  have hl5 : l < 5 := by omega
  have hlow := lv_low hn hm hl Z A
  obtain ⟨v1, v2, v3⟩ := lv_ch hl5 m N (-1)
  obtain ⟨u1, u2⟩ := unl_ch (m := m) (l := l) 16 0 B
  have on : ∀ s, s < m → (mf_on N l s ≠ 0 ↔ cs_on B m l s = true) := fun s hs => by
    rw [rd_on A Z hn hm hl hs]
    by_cases h : cs_on B m l s = true <;> simp [h]
  rw [leave_eq hm hl5]
  have smU : sm B (cs_unl m l 16 0 B) m := sm_unl hm
  -- the loops but l
  have hU : ∀ x, (∀ s, x ≠ 101 + 8 * s + 7) → cs_unl m l 16 0 B x = B x := fun x hx => (u1 x).resolve_right (fun ⟨s, _, e⟩ => hx s e)
  have hU2 : ∀ l2 s, l2 ≠ l → l2 < n → mem B m l2 s → cs_unl m l 16 0 B (101 + 8 * s + 7) = B (101 + 8 * s + 7) := fun l2 s h1 h2 h3 => by
    refine (u1 _).resolve_right (fun ⟨t, q1, q2⟩ => ?_)
    have : t = s := by omega
    subst this
    exact h1 (nI_inj (h3.2.symm.trans q1.2) (by omega) (by omega))
  have hV2 : ∀ l2 s, l2 ≠ l → l2 < n → mem B m l2 s → (mf_lv l m N (-1)).1 (101 + 8 * s + 7) = N (101 + 8 * s + 7) := fun l2 s h1 h2 h3 => by
    refine (v1 _).resolve_right (fun ⟨t, q0, q1, q2⟩ => ?_)
    have : t = s := by omega
    subst this
    exact h1 (nI_inj (h3.2.symm.trans (on_iff.1 ((on t q0).1 q1)).1.2) (by omega) (by omega))
  have key : ∀ (p f : Int32) (V : Nat → Int32), (∀ x, (∀ s, x ≠ 101 + 8 * s + 7) → True) → (∀ l2, l2 < n → l2 ≠ l → ∀ s, mem B m l2 s → V (101 + 8 * s + 7) = N (101 + 8 * s + 7)) → (∀ l2, l2 < n → l2 ≠ l → lpc (mf_comes (cs_unl m l 16 0 B) l p f (-1) (-1)) (cs_on (mf_comes (cs_unl m l 16 0 B) l p f (-1) (-1)) m) (cs_in (mf_comes (cs_unl m l 16 0 B) l p f (-1) (-1)) m) n l2 ∧ rlo (mf_comes (cs_unl m l 16 0 B) l p f (-1) (-1)) (mf_comes V l p f (-1) (-1)) m l2) := fun p f V _ hV l2 h2 hne => by
    have smc : sm B (mf_comes (cs_unl m l 16 0 B) l p f (-1) (-1)) m := smU.trans (sm_comes hl5 hm)
    have cell : ∀ k, 1 ≤ k → k ≤ 6 → mf_comes (cs_unl m l 16 0 B) l p f (-1) (-1) (20 * l2 + k) = B (20 * l2 + k) := fun k a b => by
      rw [mcomes_ne (by omega), hU _ (fun s => by omega)]
    refine ⟨lpc_fr (hL l2 h2 hne) (cell 1 (by decide) (by decide)) (cell 3 (by decide) (by decide)) (cell 4 (by decide) (by decide)) (cell 5 (by decide) (by decide)) (cell 6 (by decide) (by decide)) (sm_on smc (by omega)) (sm_in smc (by omega)) (fun e a1 a2 a3 a4 => ?_), rlo_fr (hR l2 h2 hne) (fun s => sm_mem smc) (fun s => by rw [sm_on smc (by omega)]) (fun s _ => ?_) (fun s q => ?_) (fun s q => ?_)⟩
    · have hel : e ≠ l := fun h => by subst h; exact hX l2 h2 hne a3
      rw [mcomes_ne (by omega), mcomes_ne (by omega), hU _ (fun s => by omega), hU _ (fun s => by omega)]
      exact ⟨rfl, rfl⟩
    · unfold pty
      rw [cell 1 (by decide) (by decide), cell 3 (by decide) (by decide), cell 4 (by decide) (by decide)]
    · rw [mcomes_ne (by have := q.1; omega)]; exact hU2 l2 s hne h2 q
    · have q := (on_iff.1 q).1
      rw [mcomes_ne (by have := q.1; omega)]; exact hV l2 h2 hne s q
  by_cases hf : cs_low B m l = -1
  · have quiet : ∀ s, cs_on B m l s = false := by
      rcases low_ch (B := B) (m := m) (l := l) hm with ⟨g1, g2⟩ | ⟨t, g1, g2, g3, g4⟩
      · exact g2
      · exact absurd (hf.symm.trans g2).symm (nI_m1 (by omega))
    have em : mf_leave N m l = mf_comes (mf_lv l m N (-1)).1 l 0 (-1) (-1) (-1) := by unfold mf_leave; rw [hlow, if_pos hf]
    have hk := key 0 (-1) (mf_lv l m N (-1)).1 (fun _ _ => trivial) (fun l2 a b s c => hV2 l2 s b a c)
    rw [if_pos hf, hf, em]
    have smc : sm B (mf_comes (cs_unl m l 16 0 B) l 0 (-1) (-1) (-1)) m := smU.trans (sm_comes hl5 hm)
    refine ⟨ag_comes (ag_unl hn hm (ag_lv hn hl5 hm A)), smc, fun l2 h2 _ => ?_, fun l2 h2 _ => ?_⟩
    · by_cases e : l2 = l
      · subst e
        exact lpc_mk0 (co1 _ _ _ _ _ _) ⟨co3 _ _ _ _ _ _, co4 _ _ _ _ _ _, co5 _ _ _ _ _ _, co6 _ _ _ _ _ _, fun s => by rw [sm_on smc hl5]; exact quiet s⟩
      · exact (hk l2 h2 e).1
    · by_cases e : l2 = l
      · subst e
        refine ⟨fun s q1 q2 => ?_, fun s q => ?_⟩
        · rw [sm_mem smc] at q1
          rw [mcomes_ne (by have := q1.1; omega), u2 s (by omega) (by have := q1.1; omega) q1] at q2
          exact absurd rfl q2
        · rw [sm_on smc hl5, quiet s] at q; cases q
      · exact (hk l2 h2 e).2
  · obtain ⟨t, g1, g2, g3, g4⟩ : ∃ j, j < m ∧ cs_low B m l = nI j ∧ cs_on B m l j = true ∧ ∀ t, t < j → cs_on B m l t = false := (low_ch (B := B) (m := m) (l := l) hm).resolve_left (fun h => hf h.1)
    have ht : (nI t).toNatClampNeg = t := nI_clamp (by omega)
    have em : mf_leave N m l = mf_comes (upd (mf_lv l m N (-1)).1 (101 + 8 * t + 7) 0) l 5 (nI t) (-1) (-1) := by unfold mf_leave; rw [hlow, if_neg hf, g2, ht]
    have hmt := (on_iff.1 g3).1
    have hk := key 5 (nI t) (upd (mf_lv l m N (-1)).1 (101 + 8 * t + 7) 0) (fun _ _ => trivial) (fun l2 a b s c => by
      rw [upd_ne _ _ (fun e => ?_)]
      · exact hV2 l2 s b a c
      · have : s = t := by omega
        subst this
        exact b (nI_inj (c.2.symm.trans hmt.2) (by omega) (by omega)))
    rw [if_neg hf, g2, em]
    have smc : sm B (mf_comes (cs_unl m l 16 0 B) l 5 (nI t) (-1) (-1)) m := smU.trans (sm_comes hl5 hm)
    refine ⟨ag_comes (ag_N (ag_unl hn hm (ag_lv hn hl5 hm A)) (nus_7 hn (by omega))), smc, fun l2 h2 _ => ?_, fun l2 h2 _ => ?_⟩
    · by_cases e : l2 = l
      · subst e
        refine lpc_mk5 (co1 _ _ _ _ _ _) ⟨⟨t, by rw [sm_on smc hl5]; exact g3, co3 _ _ _ _ _ _⟩, co4 _ _ _ _ _ _, co5 _ _ _ _ _ _, co6 _ _ _ _ _ _⟩
      · exact (hk l2 h2 e).1
    · by_cases e : l2 = l
      · subst e
        have lock : ∀ s, mem B m l2 s → mf_comes (cs_unl m l2 16 0 B) l2 5 (nI t) (-1) (-1) (101 + 8 * s + 7) = 0 := fun s q => by
          rw [mcomes_ne (by have := q.1; omega), u2 s (by omega) (by have := q.1; omega) q]
        refine ⟨fun s q1 q2 => ?_, fun s q => ?_⟩
        · rw [sm_mem smc] at q1
          exact absurd (lock s q1) q2
        · rw [sm_on smc hl5] at q
          have qm := (on_iff.1 q).1
          have hs16 : s < 16 := by have := qm.1; omega
          rw [lock s qm, if_pos rfl, mcomes_ne (by omega)]
          unfold pty
          rw [co1, co3]
          constructor
          · rintro (h | h)
            · have : t = s := nI_inj h (by omega) (by omega)
              subst this
              exact ⟨rfl, upd_self _ _ _⟩
            · exact absurd h.1 (by decide)
          · intro h
            have hst : s ≠ t := fun e => h (Or.inl (by rw [e]))
            rw [upd_ne _ _ (by omega)]
            exact v2 s qm.1 ((on s qm.1).2 q)
      · exact (hk l2 h2 e).2
