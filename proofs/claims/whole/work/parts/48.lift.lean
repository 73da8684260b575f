/-! lifting a receiver: the two rows stay together -/
section
variable {B N : Nat → Int32} {n m : Nat}
/-- all loops, from all but l and from l -/
theorem LP_all {l : Nat} (h : LPs B n m (· ≠ l)) (h2 : lpc B (cs_on B m) (cs_in B m) n l) : LPs B n m (fun _ => True) := fun l2 a _ => by
  by_cases e : l2 = l
  · subst e; exact h2
  · exact h l2 a e
theorem RL_all {l : Nat} (h : RLs B N n m (· ≠ l)) (h2 : rlo B N m l) : RLs B N n m (fun _ => True) := fun l2 a _ => by
  by_cases e : l2 = l
  · subst e; exact h2
  · exact h l2 a e
theorem LP_ne {l : Nat} (h : LPs B n m (fun _ => True)) : LPs B n m (· ≠ l) := fun l2 a _ => h l2 a trivial
theorem RL_ne {l : Nat} (h : RLs B N n m (fun _ => True)) : RLs B N n m (· ≠ l) := fun l2 a _ => h l2 a trivial
/-- cells that change nothing of the relation: counts, meters -/
theorem LP_cell {P : Nat → Prop} {x : Nat} {v : Int32} (hn : n ≤ 5) (hm : m ≤ 16) (h1 : ∀ l k, l < 5 → 1 ≤ k → k ≤ 8 → k ≠ 2 → x ≠ 20 * l + k) (h2 : ∀ s, s < m → x ≠ 101 + 8 * s + 1 ∧ x ≠ 101 + 8 * s + 2 ∧ x ≠ 101 + 8 * s + 6) (h : LPs B n m P) : LPs (upd B x v) n m P := fun l hl hP => by
  have smc : sm B (upd B x v) m := sm_upd h2 (fun l2 a => ⟨h1 l2 7 a (by decide) (by decide) (by decide), h1 l2 8 a (by decide) (by decide) (by decide)⟩)
  have cell : ∀ l2 k, l2 < 5 → 1 ≤ k → k ≤ 8 → k ≠ 2 → upd B x v (20 * l2 + k) = B (20 * l2 + k) := fun l2 k a b c d => upd_ne _ _ (Ne.symm (h1 l2 k a b c d))
  exact lpc_fr (h l hl hP) (cell _ 1 (by omega) (by decide) (by decide) (by decide)) (cell _ 3 (by omega) (by decide) (by decide) (by decide)) (cell _ 4 (by omega) (by decide) (by decide) (by decide)) (cell _ 5 (by omega) (by decide) (by decide) (by decide)) (cell _ 6 (by omega) (by decide) (by decide) (by decide)) (sm_on smc (by omega)) (sm_in smc (by omega)) (fun e a _ _ _ => ⟨cell _ 1 (by omega) (by decide) (by decide) (by decide), cell _ 5 (by omega) (by decide) (by decide) (by decide)⟩)
theorem RL_cell {P : Nat → Prop} {x : Nat} {v w : Int32} (hn : n ≤ 5) (hm : m ≤ 16) (h1 : ∀ l k, l < 5 → 1 ≤ k → k ≤ 8 → k ≠ 2 → x ≠ 20 * l + k) (h2 : ∀ s, s < m → x ≠ 101 + 8 * s + 1 ∧ x ≠ 101 + 8 * s + 2 ∧ x ≠ 101 + 8 * s + 6 ∧ x ≠ 101 + 8 * s + 7) (h : RLs B N n m P) : RLs (upd B x v) (upd N x w) n m P := fun l hl hP => by
  have smc : sm B (upd B x v) m := sm_upd (fun s a => ⟨(h2 s a).1, (h2 s a).2.1, (h2 s a).2.2.1⟩) (fun l2 a => ⟨h1 l2 7 a (by decide) (by decide) (by decide), h1 l2 8 a (by decide) (by decide) (by decide)⟩)
  have cell : ∀ l2 k, l2 < 5 → 1 ≤ k → k ≤ 8 → k ≠ 2 → upd B x v (20 * l2 + k) = B (20 * l2 + k) := fun l2 k a b c d => upd_ne _ _ (Ne.symm (h1 l2 k a b c d))
  refine rlo_fr (h l hl hP) (fun s => sm_mem smc) (fun s => by rw [sm_on smc (by omega)]) (fun s _ => ?_) (fun s q => upd_ne _ _ (Ne.symm (h2 s q.1).2.2.2)) (fun s q => upd_ne _ _ (Ne.symm (h2 s (on_iff.1 q).1.1).2.2.2))
  unfold pty
  rw [cell _ 1 (by omega) (by decide) (by decide) (by decide), cell _ 3 (by omega) (by decide) (by decide) (by decide), cell _ 4 (by omega) (by decide) (by decide) (by decide)]
theorem ct1 (B : Nat → Int32) (l : Nat) : cs_comeTo B l 1 = mf_comes B l 1 (B (20 * l + 3)) (-1) (-1) := by rw [comeTo_eq, if_neg (show ¬ (1 : Int32) = 0 by decide), if_neg (show ¬ (1 : Int32) ≥ 6 by decide), if_pos (show (1 : Int32) < 2 by decide)]
theorem ct2 (B : Nat → Int32) (l : Nat) : cs_comeTo B l 2 = mf_comes B l 2 (B (20 * l + 3)) (-1) (B (20 * l + 5)) := by rw [comeTo_eq, if_neg (show ¬ (2 : Int32) = 0 by decide), if_neg (show ¬ (2 : Int32) ≥ 6 by decide), if_neg (show ¬ (2 : Int32) < 2 by decide), if_pos (show (2 : Int32) ≤ 4 by decide)]
theorem ct4 (B : Nat → Int32) (l : Nat) : cs_comeTo B l 4 = mf_comes B l 4 (B (20 * l + 3)) (-1) (B (20 * l + 5)) := by rw [comeTo_eq, if_neg (show ¬ (4 : Int32) = 0 by decide), if_neg (show ¬ (4 : Int32) ≥ 6 by decide), if_neg (show ¬ (4 : Int32) < 2 by decide), if_pos (show (4 : Int32) ≤ 4 by decide)]
theorem ct5 (B : Nat → Int32) (l : Nat) : cs_comeTo B l 5 = mf_comes B l 5 (B (20 * l + 3)) (-1) (-1) := by rw [comeTo_eq, if_neg (show ¬ (5 : Int32) = 0 by decide), if_neg (show ¬ (5 : Int32) ≥ 6 by decide), if_neg (show ¬ (5 : Int32) < 2 by decide), if_neg (show ¬ (5 : Int32) ≤ 4 by decide)]
theorem ct6 (B : Nat → Int32) (l : Nat) : cs_comeTo B l 6 = mf_comes B l 6 (B (20 * l + 3)) (B (20 * l + 4)) (-1) := by rw [comeTo_eq, if_neg (show ¬ (6 : Int32) = 0 by decide), if_pos (show (6 : Int32) ≥ 6 by decide), if_neg (show ¬ (6 : Int32) < 2 by decide), if_neg (show ¬ (6 : Int32) ≤ 4 by decide)]
theorem ct7 (B : Nat → Int32) (l : Nat) : cs_comeTo B l 7 = mf_comes B l 7 (B (20 * l + 3)) (B (20 * l + 4)) (-1) := by rw [comeTo_eq, if_neg (show ¬ (7 : Int32) = 0 by decide), if_pos (show (7 : Int32) ≥ 6 by decide), if_neg (show ¬ (7 : Int32) < 2 by decide), if_neg (show ¬ (7 : Int32) ≤ 4 by decide)]
theorem ct8 (B : Nat → Int32) (l : Nat) : cs_comeTo B l 8 = mf_comes B l 8 (B (20 * l + 3)) (B (20 * l + 4)) (-1) := by rw [comeTo_eq, if_neg (show ¬ (8 : Int32) = 0 by decide), if_pos (show (8 : Int32) ≥ 6 by decide), if_neg (show ¬ (8 : Int32) < 2 by decide), if_neg (show ¬ (8 : Int32) ≤ 4 by decide)]
theorem cw1 (B : Nat → Int32) (l : Nat) (f : Int32) : cs_cw B l 1 f = mf_comes B l 1 f (-1) (-1) := by rw [cw_eq, if_neg (show ¬ (1 : Int32) = 0 by decide), if_neg (show ¬ (1 : Int32) ≥ 6 by decide), if_pos (show (1 : Int32) < 2 by decide)]
theorem cw3 (B : Nat → Int32) (l : Nat) (f : Int32) : cs_cw B l 3 f = mf_comes B l 3 f (-1) (B (20 * l + 5)) := by rw [cw_eq, if_neg (show ¬ (3 : Int32) = 0 by decide), if_neg (show ¬ (3 : Int32) ≥ 6 by decide), if_neg (show ¬ (3 : Int32) < 2 by decide), if_pos (show (3 : Int32) ≤ 4 by decide)]
theorem cw4 (B : Nat → Int32) (l : Nat) (f : Int32) : cs_cw B l 4 f = mf_comes B l 4 f (-1) (B (20 * l + 5)) := by rw [cw_eq, if_neg (show ¬ (4 : Int32) = 0 by decide), if_neg (show ¬ (4 : Int32) ≥ 6 by decide), if_neg (show ¬ (4 : Int32) < 2 by decide), if_pos (show (4 : Int32) ≤ 4 by decide)]
theorem comes_q (B : Nat → Int32) (l : Nat) (p f q e g : Int32) : upd (mf_comes B l p f q e) (20 * l + 4) g = mf_comes B l p f g e := by
  funext x
  simp only [mf_comes, upd]
  by_cases h : x = 20 * l + 4 <;> simp [h]
theorem comes_e (B : Nat → Int32) (l : Nat) (p f q e g : Int32) : upd (mf_comes B l p f q e) (20 * l + 5) g = mf_comes B l p f q g := by
  funext x
  simp only [mf_comes, upd]
  by_cases h : x = 20 * l + 5 <;> simp [h]
theorem Iv_inc {k : Nat} (I : Iv B N n m) (h1 : 231 ≤ k) (h2 : k ≤ 236) : Iv (cs_inc B k) (cs_inc N k) n m := by
  have hn := I.1.2.1
  have hm := I.1.2.2.2.1
  have kc : ∀ l2 k2, l2 < 5 → 1 ≤ k2 → k2 ≤ 8 → k2 ≠ 2 → k ≠ 20 * l2 + k2 := fun l2 k2 _ _ _ _ => by omega
  refine Iv_of I (stl_inc (by omega)) ?_ (ag_inc I.2.2.1 (by omega) h2) ?_ ?_ (zfr_inc (by omega))
  · unfold cs_inc
    exact bz_upd I.2.1 (Or.inr ⟨fun _ _ => ⟨by omega, by omega⟩, fun _ _ => ⟨by omega, by omega, by omega⟩⟩)
  · unfold cs_inc; exact LP_cell hn hm kc (fun t _ => ⟨by omega, by omega, by omega⟩) I.2.2.2.1
  · unfold cs_inc; exact RL_cell hn hm kc (fun t _ => ⟨by omega, by omega, by omega, by omega⟩) I.2.2.2.2.1
theorem S_lift {l s e : Nat} (I : Iv B N n m) (hl : l < n) (hs : mem B m l s) (h0 : B (101 + 8 * s + 6) = 0) (he : e = nt (N (20 * l + 5))) : Iv (cs_lift B n m l s) (mf_lifts N m l s e) n m := by
  have hI := I
  obtain ⟨G, Z, A, L, R, zz, dd⟩ := I
  have hn := G.2.1
  have hm := G.2.2.2.1
  have hl5 : l < 5 := by omega
  have hs16 : s < 16 := by have := hs.1; omega
  have hon0 : cs_on B m l s = false := by
    by_cases h : cs_on B m l s = true
    · exact absurd h0 (on_iff.1 h).2.1
    · simpa using h
  have lock0 : B (101 + 8 * s + 7) = 0 := by
    by_cases h : B (101 + 8 * s + 7) = 0
    · exact h
    · have := (R l hl trivial).1 s hs h
      rw [hon0] at this; cases this
  have eC : upd B (101 + 8 * s + 6) 1 = upd (upd B (101 + 8 * s + 6) 1) (101 + 8 * s + 7) 0 := (upd_id _ (by rw [upd_ne _ _ (by omega)]; exact lock0)).symm
  have stB : stl B (cs_lift B n m l s) := stl_lift hn hl5
  have sml : mi N n m := Iv_mi hI
  have he5 : N (20 * l + 5) = -1 ∨ (e < n ∧ N (20 * l + 5) = nI e) := by
    by_cases h : N (20 * l + 5) = -1
    · exact Or.inl h
    · subst he; exact Or.inr (nt_of (by omega) (sml.2 l hl).2.1 h)
  obtain ⟨hL1, hR1⟩ := O_fr (v := 1) (w := 0) hn hm hl hs (LP_ne (l := l) L) (RL_ne (l := l) R)
  have AC : ag (upd (upd B (101 + 8 * s + 6) 1) (101 + 8 * s + 7) 0) (upd (upd N (101 + 8 * s + 6) 1) (101 + 8 * s + 7) 0) n m := ag_upd (ag_upd A _ _) _ _
  have ZC : bz (upd (upd B (101 + 8 * s + 6) 1) (101 + 8 * s + 7) 0) := bz_upd (bz_upd Z (Or.inl (Or.inr rfl))) (Or.inl (Or.inl rfl))
  have cellB : ∀ x, x ≤ 100 → upd (upd B (101 + 8 * s + 6) 1) (101 + 8 * s + 7) 0 x = B x := fun x hx => by rw [upd_ne _ _ (by omega), upd_ne _ _ (by omega)]
  have zN1 : zfr N (upd (upd N (101 + 8 * s + 6) 1) (101 + 8 * s + 7) 0) n := (zfr_upd (Or.inr (by omega))).trans (zfr_upd (Or.inr (by omega)))
  have hcut : cs_cuts (upd (upd B (101 + 8 * s + 6) 1) (101 + 8 * s + 7) 0) l s = cs_cuts B l s := by
    unfold cs_cuts cs_flt
    rw [upd_ne _ _ (by omega), upd_ne _ _ (by omega), upd_ne _ _ (by omega), upd_ne _ _ (by omega), upd_ne _ _ (by omega), upd_ne _ _ (by omega)]
  have hmc : mf_cut (upd (upd N (101 + 8 * s + 6) 1) (101 + 8 * s + 7) 0) l s = cs_cuts B l s := (rd_cut AC ZC hn hl hs.1).trans hcut
  have hO : ∀ t, cs_on (upd (upd B (101 + 8 * s + 6) 1) (101 + 8 * s + 7) 0) m l t = if t = s then cs_in B m l s else cs_on B m l t := fun t => by
    rw [on6 (l := l) hl5]
    by_cases q : t = s
    · subst q; rw [if_pos rfl, if_pos rfl]; rfl
    · rw [if_neg q, if_neg q]
  have hphN : N (20 * l + 1) = B (20 * l + 1) := ag_l A hl (by omega) (by omega)
  have hfN : N (20 * l + 3) = B (20 * l + 3) := ag_l A hl (by omega) (by omega)
  by_cases hc : cs_cuts B l s = 0
  · -- not cut off
    have hin : cs_in B m l s = true := in_iff.2 ⟨hs, hc⟩
    have hlp := L l hl trivial
    have hrl := R l hl trivial
    have ec : cs_cuts (upd B (101 + 8 * s + 6) 1) l s = 0 := by rw [eC, hcut]; exact hc
    have ecN : mf_cut (upd (upd N (101 + 8 * s + 6) 1) (101 + 8 * s + 7) 0) l s = 0 := by rw [hmc]; exact hc
    have other : ∀ x, onx (cs_on B m) l x → x ≠ nI s := fun x ⟨t, h1, h2⟩ h3 => by
      have : t = s := nI_inj (h2.symm.trans h3) (by have := (on_iff.1 h1).1.1; omega) (by omega)
      subst this; rw [hon0] at h1; cases h1
    have onC : ∀ x, onx (cs_on B m) l x → onx (cs_on (upd (upd B (101 + 8 * s + 6) 1) (101 + 8 * s + 7) 0) m) l x := fun x ⟨t, h1, h2⟩ => ⟨t, by rw [hO]; by_cases q : t = s; (rw [if_pos q, hin]); (rw [if_neg q]; exact h1), h2⟩
    have onS : cs_on (upd (upd B (101 + 8 * s + 6) 1) (101 + 8 * s + 7) 0) m l s = true := by rw [hO, if_pos rfl, hin]
    have inC : cs_in (upd (upd B (101 + 8 * s + 6) 1) (101 + 8 * s + 7) 0) m l = cs_in B m l := funext fun t => in6 hl5
    -- one loop that comes to p with -1 as its other end
    have stC : stl B (upd (upd B (101 + 8 * s + 6) 1) (101 + 8 * s + 7) 0) := (stl_upd (st_su (by decide) (by decide))).trans (stl_upd (st_su (by decide) (by decide)))
    have one : ∀ p f q : Int32, B (20 * l + 5) = -1 → (∀ t, cs_on B m l t = false) → pty (mf_comes (upd (upd B (101 + 8 * s + 6) 1) (101 + 8 * s + 7) 0) l p f q (-1)) l s → lpc (mf_comes (upd (upd B (101 + 8 * s + 6) 1) (101 + 8 * s + 7) 0) l p f q (-1)) (cs_on (upd (upd B (101 + 8 * s + 6) 1) (101 + 8 * s + 7) 0) m) (cs_in (upd (upd B (101 + 8 * s + 6) 1) (101 + 8 * s + 7) 0) m) n l → Iv (mf_comes (upd (upd B (101 + 8 * s + 6) 1) (101 + 8 * s + 7) 0) l p f q (-1)) (mf_comes (upd (upd N (101 + 8 * s + 6) 1) (101 + 8 * s + 7) 0) l p f q (-1)) n m := fun p f q h5 quiet hp hk => by
      have hX : ∀ l2, l2 < n → l2 ≠ l → upd (upd B (101 + 8 * s + 6) 1) (101 + 8 * s + 7) 0 (20 * l2 + 5) ≠ nI l := fun l2 h2 hne => by rw [cellB _ (by omega)]; exact noX hn hl (LP_ne L) h5 l2 h2 hne
      obtain ⟨k1, k2⟩ := C_one (p := p) (f := f) (q := q) (e := -1) hn hm hl hL1 hX hR1
      have smc : sm (upd (upd B (101 + 8 * s + 6) 1) (101 + 8 * s + 7) 0) (mf_comes (upd (upd B (101 + 8 * s + 6) 1) (101 + 8 * s + 7) 0) l p f q (-1)) m := sm_comes hl5 hm
      have hlpc := lpc_fr (B2 := mf_comes (upd (upd B (101 + 8 * s + 6) 1) (101 + 8 * s + 7) 0) l p f q (-1)) (O2 := cs_on (mf_comes (upd (upd B (101 + 8 * s + 6) 1) (101 + 8 * s + 7) 0) l p f q (-1)) m) (D2 := cs_in (mf_comes (upd (upd B (101 + 8 * s + 6) 1) (101 + 8 * s + 7) 0) l p f q (-1)) m) hk rfl rfl rfl rfl rfl (sm_on smc hl5) (sm_in smc hl5) (fun _ _ _ _ _ => ⟨rfl, rfl⟩)
      have hr := rl_new (B2 := mf_comes (upd (upd B (101 + 8 * s + 6) 1) (101 + 8 * s + 7) 0) l p f q (-1)) (N2 := mf_comes (upd (upd N (101 + 8 * s + 6) 1) (101 + 8 * s + 7) 0) l p f q (-1)) hl5 hm hrl hin smc (fun t ht => mcomes_ne (by omega)) (fun t ht => mcomes_ne (by omega)) (fun t _ hq => by rw [quiet t] at hq; cases hq) hp
      exact Iv_of hI (stC.trans (stl_comes hl5)) (bz_comes hl5 ZC) (ag_comes AC) (LP_all k1 hlpc) (RL_all k2 hr) (zN1.trans (zfr_comes hl))
    -- coming upon
    have upon : cs_lift B n m l s = cs_upon (upd (upd B (101 + 8 * s + 6) 1) (101 + 8 * s + 7) 0) m l s → mf_lifts N m l s e = (if cs_ptalk (upd (upd B (101 + 8 * s + 6) 1) (101 + 8 * s + 7) 0) m l = 0 then cs_inc (upd (upd (upd N (101 + 8 * s + 6) 1) (101 + 8 * s + 7) 0) (101 + 8 * s + 7) 3) 235 else cs_inc (upd (upd (upd N (101 + 8 * s + 6) 1) (101 + 8 * s + 7) 0) (101 + 8 * s + 7) 4) 236) → ¬ pty B l s → lpc (upd (upd B (101 + 8 * s + 6) 1) (101 + 8 * s + 7) 0) (cs_on (upd (upd B (101 + 8 * s + 6) 1) (101 + 8 * s + 7) 0) m) (cs_in (upd (upd B (101 + 8 * s + 6) 1) (101 + 8 * s + 7) 0) m) n l → Iv (cs_lift B n m l s) (mf_lifts N m l s e) n m := fun e1 e2 np hk => by
      have LC : LPs (upd (upd B (101 + 8 * s + 6) 1) (101 + 8 * s + 7) 0) n m (fun _ => True) := LP_all hL1 hk
      have fin : ∀ w v k, (w = 0 ∨ w = 1) → 231 ≤ k → k ≤ 236 → v = (if w = 0 then 3 else 4) → cs_lift B n m l s = cs_inc (upd (upd (upd B (101 + 8 * s + 6) 1) (101 + 8 * s + 7) 0) (101 + 8 * s + 7) w) k → mf_lifts N m l s e = cs_inc (upd (upd (upd N (101 + 8 * s + 6) 1) (101 + 8 * s + 7) 0) (101 + 8 * s + 7) v) k → Iv (cs_lift B n m l s) (mf_lifts N m l s e) n m := fun w v k hw k1 k2 hv e3 e4 => by
        have hcell : ∀ l2 k2, l2 < 5 → 1 ≤ k2 → k2 ≤ 8 → k2 ≠ 2 → 101 + 8 * s + 7 ≠ 20 * l2 + k2 := fun l2 k2 _ _ _ _ => by omega
        have kcell : ∀ l2 k2, l2 < 5 → 1 ≤ k2 → k2 ≤ 8 → k2 ≠ 2 → k ≠ 20 * l2 + k2 := fun l2 k2 _ _ _ _ => by omega
        have L2 : LPs (upd (upd (upd B (101 + 8 * s + 6) 1) (101 + 8 * s + 7) 0) (101 + 8 * s + 7) w) n m (fun _ => True) := LP_cell hn hm hcell (fun t _ => ⟨by omega, by omega, by omega⟩) LC
        have R2 : RLs (upd (upd (upd B (101 + 8 * s + 6) 1) (101 + 8 * s + 7) 0) (101 + 8 * s + 7) w) (upd (upd (upd N (101 + 8 * s + 6) 1) (101 + 8 * s + 7) 0) (101 + 8 * s + 7) v) n m (fun _ => True) := by
          have smc : sm (upd (upd B (101 + 8 * s + 6) 1) (101 + 8 * s + 7) 0) (upd (upd (upd B (101 + 8 * s + 6) 1) (101 + 8 * s + 7) 0) (101 + 8 * s + 7) w) m := sm_upd (fun t _ => ⟨by omega, by omega, by omega⟩) (fun l2 _ => ⟨by omega, by omega⟩)
          have hpty : ∀ l2 t, l2 < 5 → (pty (upd (upd (upd B (101 + 8 * s + 6) 1) (101 + 8 * s + 7) 0) (101 + 8 * s + 7) w) l2 t ↔ pty B l2 t) := fun l2 t h => by
            have c3 : ∀ x, x ≤ 100 → upd (upd (upd B (101 + 8 * s + 6) 1) (101 + 8 * s + 7) 0) (101 + 8 * s + 7) w x = B x := fun x hx => by rw [upd_ne _ _ (by omega)]; exact cellB x hx
            unfold pty
            rw [c3 _ (by omega), c3 _ (by omega), c3 _ (by omega)]
          refine RL_all (l := l) (fun l2 h2 hne => rlo_fr (hR1 l2 h2 hne) (fun t => sm_mem smc) (fun t => by rw [sm_on smc (by omega)]) (fun t _ => ?_) (fun t q => ?_) (fun t q => ?_)) ⟨fun t q1 q2 => ?_, fun t q => ?_⟩
          · rw [hpty l2 t (by omega)]
            unfold pty
            rw [cellB _ (by omega), cellB _ (by omega), cellB _ (by omega)]
          · have hts : t ≠ s := fun e => by
              subst e
              rw [show mem (upd (upd B (101 + 8 * t + 6) 1) (101 + 8 * t + 7) 0) m l2 t ↔ mem B m l2 t by unfold mem; rw [upd_ne _ _ (by omega), upd_ne _ _ (by omega)]] at q
              exact hne (nI_inj (q.2.symm.trans hs.2) (by omega) (by omega))
            rw [upd_ne _ _ (by omega)]
          · have hts : t ≠ s := fun e => by
              subst e
              have q := (on_iff.1 q).1
              rw [show mem (upd (upd B (101 + 8 * t + 6) 1) (101 + 8 * t + 7) 0) m l2 t ↔ mem B m l2 t by unfold mem; rw [upd_ne _ _ (by omega), upd_ne _ _ (by omega)]] at q
              exact hne (nI_inj (q.2.symm.trans hs.2) (by omega) (by omega))
            rw [upd_ne _ _ (by omega)]
          · rw [sm_on smc hl5, hO]
            by_cases q : t = s
            · rw [if_pos q, hin]
            · rw [if_neg q]
              rw [sm_mem smc] at q1
              have q1 : mem B m l t := by unfold mem at q1 ⊢; rw [upd_ne _ _ (by omega), upd_ne _ _ (by omega)] at q1; exact q1
              rw [upd_ne _ _ (by omega), upd_ne _ _ (by omega), upd_ne _ _ (by omega)] at q2
              exact hrl.1 t q1 q2
          · rw [sm_on smc hl5, hO] at q
            rw [hpty l t hl5]
            by_cases e : t = s
            · subst e
              rw [upd_self, upd_self]
              exact ⟨fun h => absurd h np, fun _ => hv⟩
            · rw [if_neg e] at q
              rw [upd_ne _ _ (by omega), upd_ne _ _ (by omega), upd_ne _ _ (by omega), upd_ne _ _ (by omega), upd_ne _ _ (by omega), upd_ne _ _ (by omega)]
              exact hrl.2 t q
        refine Iv_of hI stB ?_ ?_ ?_ ?_ ?_
        · rw [e3]; unfold cs_inc
          exact bz_upd (bz_upd ZC (Or.inl hw)) (Or.inr ⟨fun _ _ => ⟨by omega, by omega⟩, fun _ _ => ⟨by omega, by omega, by omega⟩⟩)
        · rw [e3, e4]; exact ag_inc (ag_N (ag_B AC (nus_7 hn hs16)) (nus_7 hn hs16)) (by omega) k2
        · rw [e3]; unfold cs_inc; exact LP_cell hn hm kcell (fun t _ => ⟨by omega, by omega, by omega⟩) L2
        · rw [e3, e4]; unfold cs_inc; exact RL_cell hn hm kcell (fun t _ => ⟨by omega, by omega, by omega, by omega⟩) R2
        · rw [e4]; exact zN1.trans ((zfr_upd (Or.inr (by omega))).trans (zfr_inc (by omega)))
      by_cases hpt : cs_ptalk (upd (upd B (101 + 8 * s + 6) 1) (101 + 8 * s + 7) 0) m l = 0
      · refine fin 0 3 235 (Or.inl rfl) (by decide) (by decide) (by decide) ?_ ?_
        · rw [e1]; unfold cs_upon; rw [if_pos hpt, upd_id (upd (upd B (101 + 8 * s + 6) 1) (101 + 8 * s + 7) 0) (upd_self _ _ _)]
        · rw [e2, if_pos hpt]
      · refine fin 1 4 236 (Or.inr rfl) (by decide) (by decide) (by decide) ?_ ?_
        · rw [e1]; unfold cs_upon; rw [if_neg hpt]
        · rw [e2, if_neg hpt]
    have hLift : cs_lift B n m l s = (if B (20 * l + 1) = 0 then cs_cw (upd (upd B (101 + 8 * s + 6) 1) (101 + 8 * s + 7) 0) l 1 (nI s) else if B (20 * l + 1) = 3 then cs_answer (upd (upd B (101 + 8 * s + 6) 1) (101 + 8 * s + 7) 0) n l s else if B (20 * l + 1) = 7 then cs_ansIn (upd (upd B (101 + 8 * s + 6) 1) (101 + 8 * s + 7) 0) l s else if B (20 * l + 1) = 8 then (if B (20 * l + 3) = nI s then (upd (upd B (101 + 8 * s + 6) 1) (101 + 8 * s + 7) 0) else cs_upon (upd (upd B (101 + 8 * s + 6) 1) (101 + 8 * s + 7) 0) m l s) else cs_upon (upd (upd B (101 + 8 * s + 6) 1) (101 + 8 * s + 7) 0) m l s) := by
      simp only [cs_lift]
      rw [if_pos ec, ← eC, upd_ne _ _ (show 20 * l + 1 ≠ 101 + 8 * s + 6 by omega), upd_ne _ _ (show 20 * l + 3 ≠ 101 + 8 * s + 6 by omega)]
    have hML : mf_lifts N m l s e = (if B (20 * l + 1) = 0 then mf_comes (upd (upd N (101 + 8 * s + 6) 1) (101 + 8 * s + 7) 0) l 1 (nI s) (-1) (-1)
       else if B (20 * l + 1) = 3 then cs_inc (upd (mf_comes (mf_comes (upd (upd N (101 + 8 * s + 6) 1) (101 + 8 * s + 7) 0) l 4 (nI s) (-1) (nI e)) e 4 (mf_comes (upd (upd N (101 + 8 * s + 6) 1) (101 + 8 * s + 7) 0) l 4 (nI s) (-1) (nI e) (20 * e + 3)) (-1) (nI l)) (20 * e + 6) 1) 231
       else if B (20 * l + 1) = 7 then (if nI s = B (20 * l + 3) then mf_comes (upd (upd N (101 + 8 * s + 6) 1) (101 + 8 * s + 7) 0) l 1 (nI s) (-1) (-1) else cs_inc (mf_comes (upd (upd N (101 + 8 * s + 6) 1) (101 + 8 * s + 7) 0) l 8 (B (20 * l + 3)) (nI s) (-1)) 232)
       else if B (20 * l + 1) = 8 ∧ nI s = B (20 * l + 3) then (upd (upd N (101 + 8 * s + 6) 1) (101 + 8 * s + 7) 0)
       else if (B (20 * l + 1) = 4 ∨ B (20 * l + 1) = 8) ∧ (cs_wants (upd (upd B (101 + 8 * s + 6) 1) (101 + 8 * s + 7) 0) m (B (20 * l + 3)) ≠ 0 ∨ cs_wants (upd (upd B (101 + 8 * s + 6) 1) (101 + 8 * s + 7) 0) m (B (20 * l + 4)) ≠ 0) then cs_inc (upd (upd (upd N (101 + 8 * s + 6) 1) (101 + 8 * s + 7) 0) (101 + 8 * s + 7) 4) 236 else cs_inc (upd (upd (upd N (101 + 8 * s + 6) 1) (101 + 8 * s + 7) 0) (101 + 8 * s + 7) 3) 235) := by
      have h4 : upd (upd N (101 + 8 * s + 6) 1) (101 + 8 * s + 7) 0 (20 * l + 4) = B (20 * l + 4) := by rw [upd_ne _ _ (by omega), upd_ne _ _ (by omega)]; exact ag_l A hl (by omega) (by omega)
      simp only [mf_lifts]
      rw [if_pos ecN, hphN, hfN, h4, rd_pv AC ZC hm, rd_pv AC ZC hm]
    obtain ⟨a, b0, b1, b2, b3, b4, b5, b6, b7, b8⟩ := hlp
    have cc1 := cellB (20 * l + 1) (by omega)
    have cc3 := cellB (20 * l + 3) (by omega)
    have cc4 := cellB (20 * l + 4) (by omega)
    have cc5 := cellB (20 * l + 5) (by omega)
    have cc6 := cellB (20 * l + 6) (by omega)
    have lnkC : ∀ k, lnk B n l k → lnk (upd (upd B (101 + 8 * s + 6) 1) (101 + 8 * s + 7) 0) n l k := fun k ⟨e2, a1, a2, a3, a4, a5⟩ => ⟨e2, a1, a2, cc5.trans a3, (cellB _ (by omega)).trans a4, (cellB _ (by omega)).trans a5⟩
    -- the phases in which one comes upon
    have up : ∀ k : Int32, B (20 * l + 1) = k → k ≠ 0 → k ≠ 3 → k ≠ 7 → (k = 8 → B (20 * l + 3) ≠ nI s) → ¬ pty B l s → lpc (upd (upd B (101 + 8 * s + 6) 1) (101 + 8 * s + 7) 0) (cs_on (upd (upd B (101 + 8 * s + 6) 1) (101 + 8 * s + 7) 0) m) (cs_in (upd (upd B (101 + 8 * s + 6) 1) (101 + 8 * s + 7) 0) m) n l → Iv (cs_lift B n m l s) (mf_lifts N m l s e) n m := fun k hk k0 k3 k7 k8 np hlpc => by
      refine upon ?_ ?_ np hlpc
      · rw [hLift, hk, if_neg k0, if_neg k3, if_neg k7]
        by_cases q : k = 8
        · rw [if_pos q, if_neg (k8 q)]
        · rw [if_neg q]
      · rw [hML, hk, if_neg k0, if_neg k3, if_neg k7, if_neg (fun h => k8 h.1 h.2.symm)]
        have ept : cs_ptalk (upd (upd B (101 + 8 * s + 6) 1) (101 + 8 * s + 7) 0) m l = if k = 4 then (if cs_wants (upd (upd B (101 + 8 * s + 6) 1) (101 + 8 * s + 7) 0) m (B (20 * l + 3)) = 0 then (if cs_wants (upd (upd B (101 + 8 * s + 6) 1) (101 + 8 * s + 7) 0) m (B (20 * l + 4)) = 0 then 0 else 1) else 1) else if k = 8 then (if cs_wants (upd (upd B (101 + 8 * s + 6) 1) (101 + 8 * s + 7) 0) m (B (20 * l + 3)) = 0 then (if cs_wants (upd (upd B (101 + 8 * s + 6) 1) (101 + 8 * s + 7) 0) m (B (20 * l + 4)) = 0 then 0 else 1) else 1) else 0 := by
          unfold cs_ptalk
          rw [cc1, cc3, cc4, hk]
        rw [ept]
        by_cases q4 : k = 4
        · by_cases w1 : cs_wants (upd (upd B (101 + 8 * s + 6) 1) (101 + 8 * s + 7) 0) m (B (20 * l + 3)) = 0 <;> by_cases w2 : cs_wants (upd (upd B (101 + 8 * s + 6) 1) (101 + 8 * s + 7) 0) m (B (20 * l + 4)) = 0 <;> simp [q4, w1, w2]
        · by_cases q8 : k = 8
          · by_cases w1 : cs_wants (upd (upd B (101 + 8 * s + 6) 1) (101 + 8 * s + 7) 0) m (B (20 * l + 3)) = 0 <;> by_cases w2 : cs_wants (upd (upd B (101 + 8 * s + 6) 1) (101 + 8 * s + 7) 0) m (B (20 * l + 4)) = 0 <;> simp [q8, w1, w2]
          · simp [q4, q8]
    have npO : onx (cs_on B m) l (B (20 * l + 3)) → B (20 * l + 1) ≠ 8 → ¬ pty B l s := fun h1 h2 h3 => by
      rcases h3 with h3 | h3
      · exact other _ h1 h3
      · exact h2 h3.1
    rcases a with p | p | p | p | p | p | p | p | p
    · have h := b0 p
      have r := one 1 (nI s) (-1) h.2.2.1 h.2.2.2.2 (Or.inl (co3 _ _ _ _ _ _)) (lpc_mk1 (co1 _ _ _ _ _ _) ⟨⟨s, onS, co3 _ _ _ _ _ _⟩, co4 _ _ _ _ _ _, co5 _ _ _ _ _ _, co6 _ _ _ _ _ _⟩)
      rw [hLift, hML, if_pos p, if_pos p, cw1]; exact r
    · have h := b1 p
      exact up 1 p (by decide) (by decide) (by decide) (fun q => absurd q (by decide)) (npO h.1 (by rw [p]; decide)) (lpc_mk1 (cc1.trans p) ⟨by rw [cc3]; exact onC _ h.1, cc4.trans h.2.1, cc5.trans h.2.2.1, cc6.trans h.2.2.2⟩)
    · have h := b2 p
      exact up 2 p (by decide) (by decide) (by decide) (fun q => absurd q (by decide)) (npO h.1 (by rw [p]; decide)) (lpc_mk2 (cc1.trans p) ⟨by rw [cc3]; exact onC _ h.1, cc4.trans h.2.1, cc6.trans h.2.2.1, lnkC _ h.2.2.2⟩)
    · -- ringing: two loops
      have h := b3 p
      have quiet := h.2.2.2.1
      obtain ⟨e2, a1, a2, a3, a4, a5⟩ := h.2.2.2.2
      have ee : e2 = e := by
        rcases he5 with q | ⟨q1, q2⟩
        · rw [ag_l A hl (by omega) (by omega), a3] at q; exact absurd q (nI_m1 (by omega))
        · rw [ag_l A hl (by omega) (by omega), a3] at q2; exact nI_inj q2 (by omega) (by omega)
      subst ee
      have hle := L e2 a1 trivial
      have hone := (hle.2.2.2.1 a4).1
      have X5 : mf_comes (upd (upd B (101 + 8 * s + 6) 1) (101 + 8 * s + 7) 0) l 4 (nI s) (-1) (nI e2) (20 * e2 + 5) = nI l := by rw [mcomes_ne (by omega), cellB _ (by omega)]; exact a5
      have e1 : cs_lift B n m l s = cs_inc (upd (mf_comes (mf_comes (upd (upd B (101 + 8 * s + 6) 1) (101 + 8 * s + 7) 0) l 4 (nI s) (-1) (nI e2)) e2 4 (mf_comes (upd (upd B (101 + 8 * s + 6) 1) (101 + 8 * s + 7) 0) l 4 (nI s) (-1) (nI e2) (20 * e2 + 3)) (-1) (nI l)) (20 * e2 + 6) 1) 231 := by
        rw [hLift, if_neg (by rw [p]; decide), if_pos p]
        unfold cs_answer
        rw [cw4, cc5, a3, co5, lk_nI a1 (by omega)]
        show cs_inc (upd (cs_comeTo _ e2 4) (20 * e2 + 6) 1) 231 = _
        rw [ct4, X5]
      have e2' : mf_lifts N m l s e2 = cs_inc (upd (mf_comes (mf_comes (upd (upd N (101 + 8 * s + 6) 1) (101 + 8 * s + 7) 0) l 4 (nI s) (-1) (nI e2)) e2 4 (mf_comes (upd (upd N (101 + 8 * s + 6) 1) (101 + 8 * s + 7) 0) l 4 (nI s) (-1) (nI e2) (20 * e2 + 3)) (-1) (nI l)) (20 * e2 + 6) 1) 231 := by
        rw [hML, if_neg (by rw [p]; decide), if_pos p]
      have A2 : ag (mf_comes (upd (upd B (101 + 8 * s + 6) 1) (101 + 8 * s + 7) 0) l 4 (nI s) (-1) (nI e2)) (mf_comes (upd (upd N (101 + 8 * s + 6) 1) (101 + 8 * s + 7) 0) l 4 (nI s) (-1) (nI e2)) n m := ag_comes AC
      have e3 : mf_comes (upd (upd N (101 + 8 * s + 6) 1) (101 + 8 * s + 7) 0) l 4 (nI s) (-1) (nI e2) (20 * e2 + 3) = mf_comes (upd (upd B (101 + 8 * s + 6) 1) (101 + 8 * s + 7) 0) l 4 (nI s) (-1) (nI e2) (20 * e2 + 3) := ag_l A2 a1 (by omega) (by omega)
      have e4 : mf_comes (upd (upd B (101 + 8 * s + 6) 1) (101 + 8 * s + 7) 0) l 4 (nI s) (-1) (nI e2) (20 * e2 + 3) = B (20 * e2 + 3) := by rw [mcomes_ne (by omega)]; exact cellB _ (by omega)
      rw [e1, e2', e3, e4]
      refine Iv_inc ?_ (by decide) (by decide)
      generalize hD : upd (mf_comes (mf_comes (upd (upd B (101 + 8 * s + 6) 1) (101 + 8 * s + 7) 0) l 4 (nI s) (-1) (nI e2)) e2 4 (B (20 * e2 + 3)) (-1) (nI l)) (20 * e2 + 6) 1 = D2
      generalize hM : upd (mf_comes (mf_comes (upd (upd N (101 + 8 * s + 6) 1) (101 + 8 * s + 7) 0) l 4 (nI s) (-1) (nI e2)) e2 4 (B (20 * e2 + 3)) (-1) (nI l)) (20 * e2 + 6) 1 = M2
      have AD : ag D2 M2 n m := by rw [← hD, ← hM]; exact ag_upd (ag_comes A2) _ _
      have smD : sm (upd (upd B (101 + 8 * s + 6) 1) (101 + 8 * s + 7) 0) D2 m := by rw [← hD]; exact ((sm_comes hl5 hm).trans (sm_comes (by omega) hm)).trans (sm_upd (fun t _ => ⟨by omega, by omega, by omega⟩) (fun l2 _ => ⟨by omega, by omega⟩))
      have d7 : ∀ x, 100 < x → D2 x = upd (upd B (101 + 8 * s + 6) 1) (101 + 8 * s + 7) 0 x := fun x hx => by rw [← hD, upd_ne _ _ (by omega), mcomes_ne (by omega), mcomes_ne (by omega)]
      have m7 : ∀ x, 100 < x → M2 x = upd (upd N (101 + 8 * s + 6) 1) (101 + 8 * s + 7) 0 x := fun x hx => by rw [← hM, upd_ne _ _ (by omega), mcomes_ne (by omega), mcomes_ne (by omega)]
      have dl : ∀ k, 1 ≤ k → k ≤ 6 → D2 (20 * l + k) = mf_comes (upd (upd B (101 + 8 * s + 6) 1) (101 + 8 * s + 7) 0) l 4 (nI s) (-1) (nI e2) (20 * l + k) := fun k k1 k2 => by rw [← hD, upd_ne _ _ (by omega), mcomes_ne (by omega)]
      have de : ∀ k, 1 ≤ k → k ≤ 5 → D2 (20 * e2 + k) = mf_comes (mf_comes (upd (upd B (101 + 8 * s + 6) 1) (101 + 8 * s + 7) 0) l 4 (nI s) (-1) (nI e2)) e2 4 (B (20 * e2 + 3)) (-1) (nI l) (20 * e2 + k) := fun k k1 k2 => by rw [← hD, upd_ne _ _ (by omega)]
      have dx : ∀ l2 k, l2 ≠ l → l2 ≠ e2 → l2 < 5 → 1 ≤ k → k ≤ 6 → D2 (20 * l2 + k) = upd (upd B (101 + 8 * s + 6) 1) (101 + 8 * s + 7) 0 (20 * l2 + k) := fun l2 k q1 q2 q3 k1 k2 => by rw [← hD, upd_ne _ _ (by omega), mcomes_ne (by omega), mcomes_ne (by omega)]
      have hOe : cs_on (upd (upd B (101 + 8 * s + 6) 1) (101 + 8 * s + 7) 0) m e2 = cs_on B m e2 := funext fun t => by
        rw [on6 (l := l) (by omega)]
        by_cases q : t = s
        · subst q
          rw [if_pos rfl]
          have z1 : cs_in B m e2 t = false := by
            by_cases z : cs_in B m e2 t = true
            · exact absurd (nI_inj ((in_iff.1 z).1.2.symm.trans hs.2) (by omega) (by omega)) a2
            · simpa using z
          have z2 : cs_on B m e2 t = false := by
            by_cases z : cs_on B m e2 t = true
            · exact absurd (nI_inj ((on_iff.1 z).1.2.symm.trans hs.2) (by omega) (by omega)) a2
            · simpa using z
          rw [z1, z2, Bool.and_false]
        · rw [if_neg q]
      have lpl : lpc D2 (cs_on D2 m) (cs_in D2 m) n l := lpc_mk4 (by rw [dl 1 (by decide) (by decide), co1]) ⟨⟨s, by rw [sm_on smD hl5]; exact onS, by rw [dl 3 (by decide) (by decide), co3]⟩, by rw [dl 4 (by decide) (by decide), co4], ⟨e2, a1, a2, by rw [dl 5 (by decide) (by decide), co5], by rw [de 1 (by decide) (by decide), co1], by rw [de 5 (by decide) (by decide), co5]⟩⟩
      have lpe : lpc D2 (cs_on D2 m) (cs_in D2 m) n e2 := lpc_mk4 (by rw [de 1 (by decide) (by decide), co1]) ⟨by rw [de 3 (by decide) (by decide), co3]; obtain ⟨t, t1, t2⟩ := hone; exact ⟨t, by rw [sm_on smD (by omega), hOe]; exact t1, t2⟩, by rw [de 4 (by decide) (by decide), co4], ⟨l, hl, Ne.symm a2, by rw [de 5 (by decide) (by decide), co5], by rw [dl 1 (by decide) (by decide), co1], by rw [dl 5 (by decide) (by decide), co5]⟩⟩
      refine Iv_of hI ?_ ?_ AD (fun l2 h2 _ => ?_) (fun l2 h2 _ => ?_) ?_
      · rw [← hD]; exact ((stC.trans (stl_comes hl5)).trans (stl_comes (by omega))).trans (stl_upd (st_lo (by omega) (by decide) (by decide)))
      · rw [← hD]; exact bz_upd (bz_comes (by omega) (bz_comes hl5 ZC)) (Or.inl (Or.inr rfl))
      · by_cases q1 : l2 = l
        · subst q1; exact lpl
        · by_cases q2 : l2 = e2
          · subst q2; exact lpe
          · refine lpc_fr (hL1 l2 h2 q1) (dx l2 1 q1 q2 (by omega) (by decide) (by decide)) (dx l2 3 q1 q2 (by omega) (by decide) (by decide)) (dx l2 4 q1 q2 (by omega) (by decide) (by decide)) (dx l2 5 q1 q2 (by omega) (by decide) (by decide)) (dx l2 6 q1 q2 (by omega) (by decide) (by decide)) (sm_on smD (by omega)) (sm_in smD (by omega)) (fun e3 c1 c2 c3 c4 => ?_)
            have n1 : e3 ≠ l := fun q => by
              subst q
              rw [cc5, a3] at c4
              exact q2 (nI_inj c4.symm (by omega) (by omega))
            have n2 : e3 ≠ e2 := fun q => by
              subst q
              rw [cellB _ (by omega), a5] at c4
              exact q1 (nI_inj c4.symm (by omega) (by omega))
            exact ⟨dx e3 1 n1 n2 (by omega) (by decide) (by decide), dx e3 5 n1 n2 (by omega) (by decide) (by decide)⟩
      · by_cases q1 : l2 = l
        · subst q1
          exact rl_new hl5 hm hrl hin smD (fun t _ => d7 _ (by omega)) (fun t _ => m7 _ (by omega)) (fun t _ hq => by rw [quiet t] at hq; cases hq) (Or.inl (by rw [dl 3 (by decide) (by decide), co3]))
        · refine rlo_fr (hR1 l2 h2 q1) (fun t => sm_mem smD) (fun t => by rw [sm_on smD (by omega)]) (fun t _ => ?_) (fun t q => d7 _ (by omega)) (fun t q => m7 _ (by omega))
          by_cases q2 : l2 = e2
          · subst q2
            unfold pty
            rw [de 1 (by decide) (by decide), de 3 (by decide) (by decide), co1, co3, cellB _ (by omega), cellB _ (by omega), a4]
            simp
          · unfold pty
            rw [dx l2 1 q1 q2 (by omega) (by decide) (by decide), dx l2 3 q1 q2 (by omega) (by decide) (by decide), dx l2 4 q1 q2 (by omega) (by decide) (by decide)]
      · rw [← hM]; exact ((zN1.trans (zfr_comes hl)).trans (zfr_comes a1)).trans (zfr_upd (Or.inl (by omega)))
    · have h := b4 p
      exact up 4 p (by decide) (by decide) (by decide) (fun q => absurd q (by decide)) (npO h.1 (by rw [p]; decide)) (lpc_mk4 (cc1.trans p) ⟨by rw [cc3]; exact onC _ h.1, cc4.trans h.2.1, lnkC _ h.2.2⟩)
    · have h := b5 p
      exact up 5 p (by decide) (by decide) (by decide) (fun q => absurd q (by decide)) (npO h.1 (by rw [p]; decide)) (lpc_mk5 (cc1.trans p) ⟨by rw [cc3]; exact onC _ h.1, cc4.trans h.2.1, cc5.trans h.2.2.1, cc6.trans h.2.2.2⟩)
    · have h := b6 p
      exact up 6 p (by decide) (by decide) (by decide) (fun q => absurd q (by decide)) (npO h.1 (by rw [p]; decide)) (lpc_mk6 (cc1.trans p) ⟨by rw [cc3]; exact onC _ h.1, by rw [cc4]; unfold onx; rw [inC]; exact h.2.1, cc5.trans h.2.2.1, cc6.trans h.2.2.2⟩)
    · have h := b7 p
      by_cases q : B (20 * l + 3) = nI s
      · have r := one 1 (nI s) (-1) h.2.2.1 h.2.2.2.2 (Or.inl (co3 _ _ _ _ _ _)) (lpc_mk1 (co1 _ _ _ _ _ _) ⟨⟨s, onS, co3 _ _ _ _ _ _⟩, co4 _ _ _ _ _ _, co5 _ _ _ _ _ _, co6 _ _ _ _ _ _⟩)
        rw [hLift, hML, if_neg (show ¬ B (20 * l + 1) = 0 by rw [p]; decide), if_neg (show ¬ B (20 * l + 1) = 0 by rw [p]; decide), if_neg (show ¬ B (20 * l + 1) = 3 by rw [p]; decide), if_neg (show ¬ B (20 * l + 1) = 3 by rw [p]; decide), if_pos p, if_pos p, if_pos q.symm]
        unfold cs_ansIn
        rw [cc3, if_pos q, ct1, cc3, q]; exact r
      · have r := one 8 (B (20 * l + 3)) (nI s) h.2.2.1 h.2.2.2.2 (Or.inr ⟨co1 _ _ _ _ _ _, co4 _ _ _ _ _ _⟩) (lpc_mk8 (co1 _ _ _ _ _ _) ⟨by rw [co3]; unfold onx; rw [inC]; exact h.1, ⟨s, onS, co4 _ _ _ _ _ _⟩, co5 _ _ _ _ _ _, co6 _ _ _ _ _ _⟩)
        rw [hLift, hML, if_neg (show ¬ B (20 * l + 1) = 0 by rw [p]; decide), if_neg (show ¬ B (20 * l + 1) = 0 by rw [p]; decide), if_neg (show ¬ B (20 * l + 1) = 3 by rw [p]; decide), if_neg (show ¬ B (20 * l + 1) = 3 by rw [p]; decide), if_pos p, if_pos p, if_neg (fun h => q h.symm)]
        unfold cs_ansIn
        rw [cc3, if_neg q, ct8, cc3, comes_q]; exact Iv_inc r (by decide) (by decide)
    · have h := b8 p
      have lC : lpc (upd (upd B (101 + 8 * s + 6) 1) (101 + 8 * s + 7) 0) (cs_on (upd (upd B (101 + 8 * s + 6) 1) (101 + 8 * s + 7) 0) m) (cs_in (upd (upd B (101 + 8 * s + 6) 1) (101 + 8 * s + 7) 0) m) n l := lpc_mk8 (cc1.trans p) ⟨by rw [cc3]; unfold onx; rw [inC]; exact h.1, by rw [cc4]; exact onC _ h.2.1, cc5.trans h.2.2.1, cc6.trans h.2.2.2⟩
      by_cases q : B (20 * l + 3) = nI s
      · rw [hLift, hML, if_neg (show ¬ B (20 * l + 1) = 0 by rw [p]; decide), if_neg (show ¬ B (20 * l + 1) = 0 by rw [p]; decide), if_neg (show ¬ B (20 * l + 1) = 3 by rw [p]; decide), if_neg (show ¬ B (20 * l + 1) = 3 by rw [p]; decide), if_neg (show ¬ B (20 * l + 1) = 7 by rw [p]; decide), if_neg (show ¬ B (20 * l + 1) = 7 by rw [p]; decide), if_pos p, if_pos q, if_pos ⟨p, q.symm⟩]
        refine Iv_of hI stC ZC AC (LP_all hL1 lC) (RL_all hR1 ?_) zN1
        refine rl_new hl5 hm hrl hin sm.rfl' (fun t _ => rfl) (fun t _ => rfl) (fun t _ _ => ?_) (Or.inl (cc3.trans q))
        unfold pty
        rw [cc1, cc3, cc4]
      · refine up 8 p (by decide) (by decide) (by decide) (fun _ => q) (fun h3 => ?_) lC
        rcases h3 with h3 | h3
        · exact q h3
        · exact other _ h.2.1 h3.2
  · have hin : cs_in B m l s = false := by
      by_cases h : cs_in B m l s = true
      · exact absurd (in_iff.1 h).2 hc
      · simpa using h
    have e1 : cs_lift B n m l s = upd (upd B (101 + 8 * s + 6) 1) (101 + 8 * s + 7) 0 := by
      simp only [cs_lift]
      rw [if_neg (by rw [eC, hcut]; exact hc)]; exact eC
    have e2 : mf_lifts N m l s e = upd (upd N (101 + 8 * s + 6) 1) (101 + 8 * s + 7) 0 := by
      simp only [mf_lifts]
      rw [if_neg (by rw [hmc]; exact hc)]
    have hOl : cs_on (upd (upd B (101 + 8 * s + 6) 1) (101 + 8 * s + 7) 0) m l = cs_on B m l := funext fun t => by
      rw [hO]
      by_cases q : t = s
      · subst q; rw [if_pos rfl, hin, hon0]
      · rw [if_neg q]
    refine Iv_of hI stB (e1 ▸ ZC) (by rw [e1, e2]; exact AC) ?_ ?_ (by rw [e2]; exact zN1)
    · rw [e1]
      exact LP_all hL1 (lpc_fr (L l hl trivial) (cellB _ (by omega)) (cellB _ (by omega)) (cellB _ (by omega)) (cellB _ (by omega)) (cellB _ (by omega)) hOl (funext fun t => in6 hl5) (fun e2 _ _ _ _ => ⟨cellB _ (by omega), cellB _ (by omega)⟩))
    · rw [e1, e2]
      refine RL_all hR1 (rlo_fr (R l hl trivial) (fun t => by unfold mem; rw [upd_ne _ _ (by omega), upd_ne _ _ (by omega)]) (fun t => by rw [hOl]) (fun t _ => ?_) (fun t q => ?_) (fun t q => ?_))
      · unfold pty
        rw [cellB _ (by omega), cellB _ (by omega), cellB _ (by omega)]
      · by_cases q2 : t = s
        · subst q2; rw [upd_self, lock0]
        · rw [upd_ne _ _ (by omega), upd_ne _ _ (by omega)]
      · have : t ≠ s := fun q2 => by subst q2; rw [hon0] at q; cases q
        rw [upd_ne _ _ (by omega), upd_ne _ _ (by omega)]
end
