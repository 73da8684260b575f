/-! ending a call; one or two loops that come to a phase; a receiver that changes -/
section
variable {B N : Nat → Int32} {n m : Nat}
/-- nobody leads to a loop that leads nowhere -/
theorem noX {l : Nat} (hn : n ≤ 5) (hl : l < n) (hL : LPs B n m (· ≠ l)) (h5 : B (20 * l + 5) = -1) : ∀ l2, l2 < n → l2 ≠ l → B (20 * l2 + 5) ≠ nI l := fun l2 h2 hne h => by
  obtain ⟨_, k, e, a1, a2, a3, a4, a5⟩ := lpc_link (hL l2 h2 hne) (by rw [h]; exact nI_m1 (by omega))
  have : e = l := nI_inj (a3.symm.trans h) (by omega) (by omega)
  subst this
  exact nI_m1 (by omega) (a5.symm.trans h5)
/-- whoever leads to a loop is the one it leads to -/
theorem oneX {l e : Nat} (hn : n ≤ 5) (hl : l < n) (hL : LPs B n m (· ≠ l)) (he : e < n) (h5 : B (20 * l + 5) = nI e) : ∀ l2, l2 < n → l2 ≠ l → l2 ≠ e → B (20 * l2 + 5) ≠ nI l := fun l2 h2 hne hne2 h => by
  obtain ⟨_, k, e2, a1, a2, a3, a4, a5⟩ := lpc_link (hL l2 h2 hne) (by rw [h]; exact nI_m1 (by omega))
  have : e2 = l := nI_inj (a3.symm.trans h) (by omega) (by omega)
  subst this
  exact hne2 (nI_inj (a5.symm.trans h5) (by omega) (by omega))
theorem C_one {l : Nat} {p f q e : Int32} (hn : n ≤ 5) (hm : m ≤ 16) (hl : l < n) (hL : LPs B n m (· ≠ l)) (hX : ∀ l2, l2 < n → l2 ≠ l → B (20 * l2 + 5) ≠ nI l) (hR : RLs B N n m (· ≠ l)) : LPs (mf_comes B l p f q e) n m (· ≠ l) ∧ RLs (mf_comes B l p f q e) (mf_comes N l p f q e) n m (· ≠ l) := by
  have smc : sm B (mf_comes B l p f q e) m := sm_comes (by omega) hm
  have cell : ∀ l2 k, l2 ≠ l → 1 ≤ k → k ≤ 6 → mf_comes B l p f q e (20 * l2 + k) = B (20 * l2 + k) := fun l2 k h a b => mcomes_ne (by omega)
  refine ⟨fun l2 h2 hne => lpc_fr (hL l2 h2 hne) (cell _ 1 hne (by decide) (by decide)) (cell _ 3 hne (by decide) (by decide)) (cell _ 4 hne (by decide) (by decide)) (cell _ 5 hne (by decide) (by decide)) (cell _ 6 hne (by decide) (by decide)) (sm_on smc (by omega)) (sm_in smc (by omega)) (fun e2 a1 a2 a3 a4 => ?_), fun l2 h2 hne => rlo_fr (hR l2 h2 hne) (fun s => sm_mem smc) (fun s => by rw [sm_on smc (by omega)]) (fun s _ => ?_) (fun s q => ?_) (fun s q => ?_)⟩
  · have hel : e2 ≠ l := fun h => by subst h; exact hX l2 h2 hne a3
    exact ⟨cell _ 1 hel (by decide) (by decide), cell _ 5 hel (by decide) (by decide)⟩
  · unfold pty
    rw [cell _ 1 hne (by decide) (by decide), cell _ 3 hne (by decide) (by decide), cell _ 4 hne (by decide) (by decide)]
  · exact mcomes_ne (by have := q.1; omega)
  · have := (on_iff.1 q).1.1
    exact mcomes_ne (by omega)
theorem far_eq {l e : Nat} (hn : n ≤ 5) (h : B (20 * l + 5) = -1 ∨ (e < n ∧ B (20 * l + 5) = nI e)) : cs_far B n l = mf_far B l e := by
  rcases h with h | ⟨h1, h2⟩
  · unfold cs_far mf_far
    rw [h, lk_m1, if_pos rfl]
  · unfold cs_far mf_far
    rw [h2, lk_nI h1 (by omega), if_neg (nI_m1 (by omega))]
    show cs_comeTo B e (if B (20 * e + 1) = 3 then 0 else 5) = _
    rw [comeTo_eq]
    by_cases h3 : B (20 * e + 1) = 3
    · rw [if_pos h3, if_pos h3, if_pos rfl, if_neg (show ¬ (0 : Int32) ≥ 6 by decide), if_pos (show (0 : Int32) < 2 by decide)]
    · rw [if_neg h3, if_neg h3, if_neg (show ¬ (5 : Int32) = 0 by decide), if_neg (show ¬ (5 : Int32) ≥ 6 by decide), if_neg (show ¬ (5 : Int32) < 2 by decide), if_neg (show ¬ (5 : Int32) ≤ 4 by decide)]
theorem E_end {l e : Nat} (hn : n ≤ 5) (hm : m ≤ 16) (hl : l < n) (Z : bz B) (A : ag B N n m) (hL : LPs B n m (· ≠ l)) (hR : RLs B N n m (· ≠ l)) (hE : B (20 * l + 5) = -1 ∨ (e < n ∧ e ≠ l ∧ B (20 * l + 5) = nI e ∧ B (20 * e + 5) = nI l)) : ag (cs_end B n m l) (mf_end N m l e) n m ∧ sm B (cs_end B n m l) m ∧ LPs (cs_end B n m l) n m (fun _ => True) ∧ RLs (cs_end B n m l) (mf_end N m l e) n m (fun _ => True) := by
  unfold cs_end mf_end
  rw [far_eq (e := e) hn (hE.imp id (fun h => ⟨h.1, h.2.2.1⟩))]
  rcases hE with h | ⟨he, hel, h5, h5e⟩
  · have e1 : mf_far B l e = B := by unfold mf_far; rw [if_pos h]
    have e2 : mf_far N l e = N := by unfold mf_far; rw [if_pos ((ag_l A hl (by omega) (by omega)).trans h)]
    rw [e1, e2]
    exact E_leave hn hm hl Z A hL (noX hn hl hL h) hR
  · have hp1 : B (20 * l + 5) ≠ -1 := by rw [h5]; exact nI_m1 (by omega)
    have hpN : N (20 * l + 5) ≠ -1 := by rw [ag_l A hl (by omega) (by omega)]; exact hp1
    have hle := hL e he hel
    have hX1 : ∀ l2, l2 < n → l2 ≠ e → l2 ≠ l → B (20 * l2 + 5) ≠ nI e := fun l2 h2 ha hb h => by
      obtain ⟨_, k, e2, a1, a2, a3, a4, a5⟩ := lpc_link (hL l2 h2 hb) (by rw [h]; exact nI_m1 (by omega))
      have : e2 = e := nI_inj (a3.symm.trans h) (by omega) (by omega)
      subst this
      exact hb (nI_inj (a5.symm.trans h5e) (by omega) (by omega))
    have hX2 := oneX hn hl hL he h5
    -- the far loop's new cells
    have go : ∀ p f : Int32, mf_far B l e = mf_comes B e p f (-1) (-1) → mf_far N l e = mf_comes N e p f (-1) (-1) → lpc (mf_comes B e p f (-1) (-1)) (cs_on B m) (cs_in B m) n e → rlo (mf_comes B e p f (-1) (-1)) (mf_comes N e p f (-1) (-1)) m e → ag (cs_leave (mf_far B l e) m l) (mf_leave (mf_far N l e) m l) n m ∧ sm B (cs_leave (mf_far B l e) m l) m ∧ LPs (cs_leave (mf_far B l e) m l) n m (fun _ => True) ∧ RLs (cs_leave (mf_far B l e) m l) (mf_leave (mf_far N l e) m l) n m (fun _ => True) := fun p f e1 e2 hlp hrl => by
      rw [e1, e2]
      have smc : sm B (mf_comes B e p f (-1) (-1)) m := sm_comes (by omega) hm
      have cell : ∀ l2 k, l2 ≠ e → 1 ≤ k → k ≤ 6 → mf_comes B e p f (-1) (-1) (20 * l2 + k) = B (20 * l2 + k) := fun l2 k h a b => mcomes_ne (by omega)
      have r := E_leave (B := mf_comes B e p f (-1) (-1)) (N := mf_comes N e p f (-1) (-1)) hn hm hl (bz_comes (by omega) Z) (ag_comes A) (fun l2 h2 hne => ?_) (fun l2 h2 hne => ?_) (fun l2 h2 hne => ?_)
      · exact ⟨r.1, smc.trans r.2.1, r.2.2⟩
      · by_cases hq : l2 = e
        · subst hq
          have : cs_on (mf_comes B l2 p f (-1) (-1)) m l2 = cs_on B m l2 := sm_on smc (by omega)
          have hd : cs_in (mf_comes B l2 p f (-1) (-1)) m l2 = cs_in B m l2 := sm_in smc (by omega)
          exact lpc_fr hlp rfl rfl rfl rfl rfl this hd (fun e3 _ _ _ _ => ⟨rfl, rfl⟩)
        · refine lpc_fr (hL l2 h2 hne) (cell _ 1 hq (by decide) (by decide)) (cell _ 3 hq (by decide) (by decide)) (cell _ 4 hq (by decide) (by decide)) (cell _ 5 hq (by decide) (by decide)) (cell _ 6 hq (by decide) (by decide)) (sm_on smc (by omega)) (sm_in smc (by omega)) (fun e2 a1 a2 a3 a4 => ?_)
          have hee : e2 ≠ e := fun h => by subst h; exact hX1 l2 h2 hq hne a3
          exact ⟨cell _ 1 hee (by decide) (by decide), cell _ 5 hee (by decide) (by decide)⟩
      · by_cases hq : l2 = e
        · subst hq; rw [co5]; exact fun h => nI_m1 (by omega) h.symm
        · rw [cell _ 5 hq (by decide) (by decide)]; exact hX2 l2 h2 hne hq
      · by_cases hq : l2 = e
        · subst hq; exact hrl
        · refine rlo_fr (hR l2 h2 hne) (fun s => sm_mem smc) (fun s => by rw [sm_on smc (by omega)]) (fun s _ => ?_) (fun s q => ?_) (fun s q => ?_)
          · unfold pty
            rw [cell _ 1 hq (by decide) (by decide), cell _ 3 hq (by decide) (by decide), cell _ 4 hq (by decide) (by decide)]
          · exact mcomes_ne (by have := q.1; omega)
          · have := (on_iff.1 q).1.1
            exact mcomes_ne (by omega)
    have smE : ∀ p f : Int32, sm B (mf_comes B e p f (-1) (-1)) m := fun p f => sm_comes (by omega) hm
    by_cases h3 : B (20 * e + 1) = 3
    · refine go 0 (-1) (by unfold mf_far; rw [if_neg hp1, if_pos h3]) (by unfold mf_far; rw [if_neg hpN, if_pos ((ag_l A he (by omega) (by omega)).trans h3)]) (lpc_mk0 (co1 _ _ _ _ _ _) ⟨co3 _ _ _ _ _ _, co4 _ _ _ _ _ _, co5 _ _ _ _ _ _, co6 _ _ _ _ _ _, (hle.2.2.2.2.1 h3).2.2.2.1⟩) ?_
      have quiet := (hle.2.2.2.2.1 h3).2.2.2.1
      refine rlo_fr (hR e he hel) (fun s => sm_mem (smE _ _)) (fun s => by rw [sm_on (smE _ _) (by omega)]) (fun s q => ?_) (fun s q => mcomes_ne (by have := q.1; omega)) (fun s q => ?_)
      · rw [quiet s] at q; cases q
      · rw [quiet s] at q; cases q
    · have h24 : B (20 * e + 1) = 2 ∨ B (20 * e + 1) = 4 := by
        rcases (lpc_link hle (by rw [h5e]; exact nI_m1 (by omega))).1 with h | h | h
        · exact Or.inl h
        · exact absurd h h3
        · exact Or.inr h
      have hon : onx (cs_on B m) e (B (20 * e + 3)) := by
        rcases h24 with h | h
        · exact (hle.2.2.2.1 h).1
        · exact (hle.2.2.2.2.2.1 h).1
      refine go 5 (B (20 * e + 3)) (by unfold mf_far; rw [if_neg hp1, if_neg h3]) (by unfold mf_far; rw [if_neg hpN, if_neg (by rw [ag_l A he (by omega) (by omega)]; exact h3), ag_l A he (by omega) (by omega)]) (lpc_mk5 (co1 _ _ _ _ _ _) ⟨by rw [co3]; exact hon, co4 _ _ _ _ _ _, co5 _ _ _ _ _ _, co6 _ _ _ _ _ _⟩) ?_
      refine rlo_fr (hR e he hel) (fun s => sm_mem (smE _ _)) (fun s => by rw [sm_on (smE _ _) (by omega)]) (fun s q => ?_) (fun s q => mcomes_ne (by have := q.1; omega)) (fun s q => ?_)
      · unfold pty
        rw [co1, co3]
        constructor
        · rintro (h | h)
          · exact Or.inl h
          · exact absurd h.1 (by decide)
        · rintro (h | h)
          · exact Or.inl h
          · rcases h24 with g | g <;> rw [g] at h <;> exact absurd h.1 (by decide)
      · have := (on_iff.1 q).1.1
        exact mcomes_ne (by omega)
/-- a receiver goes off or on the hook: everybody else's loops -/
theorem on6 {l l2 s t : Nat} {v w : Int32} (hl : l2 < 5) : cs_on (upd (upd B (101 + 8 * s + 6) v) (101 + 8 * s + 7) w) m l2 t = if t = s then (decide (v ≠ 0) && cs_in B m l2 t) else cs_on B m l2 t := by
  have e1 : upd (upd B (101 + 8 * s + 6) v) (101 + 8 * s + 7) w (101 + 8 * t + 1) = B (101 + 8 * t + 1) := by rw [upd_ne _ _ (by omega), upd_ne _ _ (by omega)]
  have e2 : cs_cuts (upd (upd B (101 + 8 * s + 6) v) (101 + 8 * s + 7) w) l2 t = cs_cuts B l2 t := by
    unfold cs_cuts cs_flt
    rw [upd_ne _ _ (by omega), upd_ne _ _ (by omega), upd_ne _ _ (by omega), upd_ne _ _ (by omega), upd_ne _ _ (by omega), upd_ne _ _ (by omega)]
  by_cases h : t = s
  · subst h
    have e3 : upd (upd B (101 + 8 * t + 6) v) (101 + 8 * t + 7) w (101 + 8 * t + 6) = v := by rw [upd_ne _ _ (by omega), upd_self]
    rw [if_pos rfl, Bool.eq_iff_iff, on_iff, Bool.and_eq_true, in_iff]
    unfold mem
    rw [e1, e2, e3]
    simp
    constructor
    · rintro ⟨a, b, c⟩; exact ⟨b, a, c⟩
    · rintro ⟨b, a, c⟩; exact ⟨a, b, c⟩
  · have e3 : upd (upd B (101 + 8 * s + 6) v) (101 + 8 * s + 7) w (101 + 8 * t + 6) = B (101 + 8 * t + 6) := by rw [upd_ne _ _ (by omega), upd_ne _ _ (by omega)]
    rw [if_neg h, Bool.eq_iff_iff, on_iff, on_iff]
    unfold mem
    rw [e1, e2, e3]
theorem in6 {l2 s t : Nat} {v w : Int32} (hl : l2 < 5) : cs_in (upd (upd B (101 + 8 * s + 6) v) (101 + 8 * s + 7) w) m l2 t = cs_in B m l2 t := by
  rw [Bool.eq_iff_iff, in_iff, in_iff]
  unfold mem cs_cuts cs_flt
  rw [upd_ne _ _ (by omega), upd_ne _ _ (by omega), upd_ne _ _ (by omega), upd_ne _ _ (by omega), upd_ne _ _ (by omega), upd_ne _ _ (by omega), upd_ne _ _ (by omega), upd_ne _ _ (by omega)]
theorem O_fr {l s : Nat} {v w : Int32} (hn : n ≤ 5) (hm : m ≤ 16) (hl : l < n) (hs : mem B m l s) (hL : LPs B n m (· ≠ l)) (hR : RLs B N n m (· ≠ l)) : LPs (upd (upd B (101 + 8 * s + 6) v) (101 + 8 * s + 7) 0) n m (· ≠ l) ∧ RLs (upd (upd B (101 + 8 * s + 6) v) (101 + 8 * s + 7) 0) (upd (upd N (101 + 8 * s + 6) v) (101 + 8 * s + 7) w) n m (· ≠ l) := by
  have hs16 : s < 16 := by have := hs.1; omega
  have notin : ∀ l2, l2 < n → l2 ≠ l → ¬ mem B m l2 s := fun l2 h2 hne h => hne (nI_inj (h.2.symm.trans hs.2) (by omega) (by omega))
  have hO : ∀ l2, l2 < n → l2 ≠ l → cs_on (upd (upd B (101 + 8 * s + 6) v) (101 + 8 * s + 7) 0) m l2 = cs_on B m l2 := fun l2 h2 hne => by
    funext t
    rw [on6 (l := l) (by omega)]
    by_cases h : t = s
    · subst h
      rw [if_pos rfl]
      have a : cs_in B m l2 t = false := by
        by_cases q : cs_in B m l2 t = true
        · exact absurd (in_iff.1 q).1 (notin l2 h2 hne)
        · simpa using q
      have b : cs_on B m l2 t = false := by
        by_cases q : cs_on B m l2 t = true
        · exact absurd (on_iff.1 q).1 (notin l2 h2 hne)
        · simpa using q
      rw [a, b, Bool.and_false]
    · rw [if_neg h]
  have hD : ∀ l2, l2 < n → cs_in (upd (upd B (101 + 8 * s + 6) v) (101 + 8 * s + 7) 0) m l2 = cs_in B m l2 := fun l2 h2 => funext fun t => in6 (by omega)
  have cell : ∀ x, x ≤ 100 → upd (upd B (101 + 8 * s + 6) v) (101 + 8 * s + 7) 0 x = B x := fun x hx => by rw [upd_ne _ _ (by omega), upd_ne _ _ (by omega)]
  have hM : ∀ l2 t, mem (upd (upd B (101 + 8 * s + 6) v) (101 + 8 * s + 7) 0) m l2 t ↔ mem B m l2 t := fun l2 t => by
    unfold mem; rw [upd_ne _ _ (by omega), upd_ne _ _ (by omega)]
  refine ⟨fun l2 h2 hne => lpc_fr (hL l2 h2 hne) (cell _ (by omega)) (cell _ (by omega)) (cell _ (by omega)) (cell _ (by omega)) (cell _ (by omega)) (hO l2 h2 hne) (hD l2 h2) (fun e _ _ _ _ => ⟨cell _ (by omega), cell _ (by omega)⟩), fun l2 h2 hne => rlo_fr (hR l2 h2 hne) (hM l2) (fun t => by rw [hO l2 h2 hne]) (fun t _ => ?_) (fun t q => ?_) (fun t q => ?_)⟩
  · unfold pty
    rw [cell _ (by omega), cell _ (by omega), cell _ (by omega)]
  · have : t ≠ s := fun e => by subst e; exact notin l2 h2 hne q
    rw [upd_ne _ _ (by omega), upd_ne _ _ (by omega)]
  · have : t ≠ s := fun e => by subst e; exact notin l2 h2 hne (on_iff.1 q).1
    rw [upd_ne _ _ (by omega), upd_ne _ _ (by omega)]
end
