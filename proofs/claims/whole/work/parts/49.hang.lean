/-! standing; hanging up -/
section
variable {B N : Nat → Int32} {n m : Nat}
theorem party_iff {l s : Nat} (h : cs_on B m l s = true) : cs_party B l s ≠ 0 ↔ pty B l s := by
  obtain ⟨_, h1, h2⟩ := on_iff.1 h
  unfold cs_party pty
  rw [if_neg h1, if_neg (fun q => q h2)]
  by_cases a : nI s = B (20 * l + 3)
  · rw [if_pos a]; simp [a]
  · rw [if_neg a]
    have a2 : ¬ B (20 * l + 3) = nI s := fun q => a q.symm
    by_cases b : B (20 * l + 1) = 8
    · rw [if_neg (fun q => q b)]
      by_cases c : nI s = B (20 * l + 4)
      · rw [if_neg (fun q => q c)]; simp [b, c]
      · rw [if_pos c]
        have c2 : ¬ B (20 * l + 4) = nI s := fun q => c q.symm
        simp [a2, b, c2]
    · rw [if_pos b]; simp [a2, b]
theorem party_off {l s : Nat} (hs : mem B m l s) (h : cs_on B m l s = false) : cs_party B l s = 0 := by
  unfold cs_party
  by_cases h1 : B (101 + 8 * s + 6) = 0
  · rw [if_pos h1]
  · rw [if_neg h1]
    by_cases h2 : cs_cuts B l s = 0
    · have := on_iff.2 ⟨hs, h1, h2⟩
      rw [h] at this; cases this
    · rw [if_pos h2]
theorem rd_state (A : ag B N n m) (Z : bz B) (hn : n ≤ 5) {l s : Nat} (hl : l < n) (hs : mem B m l s) (R : rlo B N m l) : mf_state N l s = cs_stand B l s := by
  unfold mf_state cs_stand
  rw [ag_s A hs.1 (by omega) (by omega) (by omega), rd_cut A Z hn hl hs.1]
  by_cases h1 : B (101 + 8 * s + 6) = 0
  · rw [if_pos h1, if_pos h1]
  · rw [if_neg h1, if_neg h1]
    by_cases h2 : cs_cuts B l s = 0
    · have hon := on_iff.2 ⟨hs, h1, h2⟩
      have hc : cs_cut B l s = 0 := by unfold cs_cut; rw [if_pos h2]
      rw [if_pos h2, if_neg (show ¬ cs_cut B l s ≠ 0 from fun q => q hc)]
      obtain ⟨r1, r2⟩ := R.2 s hon
      by_cases hp : pty B l s
      · rw [(r1 hp).2, if_pos (show (0 : Int32) ≤ 0 by decide), if_pos ((party_iff hon).2 hp)]
      · rw [r2 hp, if_neg (fun q => hp ((party_iff hon).1 q))]
        by_cases h7 : B (101 + 8 * s + 7) = 0
        · rw [if_pos h7, if_neg (show ¬ (3 : Int32) ≤ 0 by decide)]
        · rw [if_neg h7, if_neg (show ¬ (4 : Int32) ≤ 0 by decide)]
    · have hc : cs_cut B l s = 1 := by unfold cs_cut; rw [if_neg h2]
      rw [if_neg h2, if_pos (by rw [hc]; decide)]
theorem bz_far {l e : Nat} (he : B (20 * l + 5) = -1 ∨ e < 5) (Z : bz B) : bz (mf_far B l e) := by
  unfold mf_far
  split
  · exact Z
  · rename_i h
    have he := he.resolve_left h
    split
    · exact bz_comes he Z
    · exact bz_comes he Z
theorem Iv_end {B0 N0 : Nat → Int32} {l e : Nat} (I : Iv B0 N0 n m) (hl : l < n) (f : stl B0 B) (Z : bz B) (A : ag B N n m) (hL : LPs B n m (· ≠ l)) (hR : RLs B N n m (· ≠ l)) (hE : B (20 * l + 5) = -1 ∨ (e < n ∧ e ≠ l ∧ B (20 * l + 5) = nI e ∧ B (20 * e + 5) = nI l)) (z : zfr N0 N n) : Iv (cs_end B n m l) (mf_end N m l e) n m := by
  have hn := I.1.2.1
  have hm := I.1.2.2.2.1
  obtain ⟨r1, r2, r3, r4⟩ := E_end hn hm hl Z A hL hR hE
  refine Iv_of I (f.trans (stl_end hn (by omega))) ?_ r1 r3 r4 (z.trans (zfr_end hn hl ?_))
  · unfold cs_end
    rw [far_eq (e := e) hn (hE.imp id (fun h => ⟨h.1, h.2.2.1⟩)), leave_eq hm (by omega)]
    exact bz_comes (by omega) (bz_unl 16 0 _ (bz_far (hE.imp id (fun h => by omega)) Z))
  · rcases hE with h | h
    · exact Or.inl ((ag_l A hl (by omega) (by omega)).trans h)
    · exact Or.inr h.1
theorem hE_of {l : Nat} (I : Iv B N n m) (hl : l < n) : B (20 * l + 5) = -1 ∨ (nt (N (20 * l + 5)) < n ∧ nt (N (20 * l + 5)) ≠ l ∧ B (20 * l + 5) = nI (nt (N (20 * l + 5))) ∧ B (20 * nt (N (20 * l + 5)) + 5) = nI l) := by
  have hn := I.1.2.1
  by_cases h : B (20 * l + 5) = -1
  · exact Or.inl h
  · obtain ⟨_, k, e, a1, a2, a3, a4, a5⟩ := lpc_link (I.2.2.2.1 l hl trivial) h
    have : nt (N (20 * l + 5)) = e := by
      unfold nt
      rw [ag_l I.2.2.1 hl (by omega) (by omega), a3, nI_clamp (by omega)]
    rw [this]
    exact Or.inr ⟨a1, a2, a3, a5⟩
theorem any_low (A : ag B N n m) (Z : bz B) (hn : n ≤ 5) (hm : m ≤ 16) {l : Nat} (hl : l < n) : orF (mf_on N l) m 0 = 0 ↔ cs_low B m l = -1 := by
  rw [orF_0 (fun j => mon_01 N l j)]
  constructor
  · intro h
    rcases low_ch (B := B) (m := m) (l := l) hm with ⟨g1, _⟩ | ⟨t, g1, g2, g3, g4⟩
    · exact g1
    · have := h t (by omega) (by omega)
      rw [rd_on A Z hn hm hl g1, if_pos g3] at this
      exact absurd this (by decide)
  · intro h j _ hj
    have hj : j < m := by omega
    rw [rd_on A Z hn hm hl hj]
    rcases low_ch (B := B) (m := m) (l := l) hm with ⟨_, g2⟩ | ⟨t, g1, g2, g3, g4⟩
    · rw [g2 j]; rfl
    · exact absurd (h.symm.trans g2).symm (nI_m1 (by omega))
theorem S_hang {l s : Nat} (I : Iv B N n m) (hl : l < n) (hs : mem B m l s) (h0 : B (101 + 8 * s + 6) ≠ 0) : Iv (cs_hang B n m l s) (mf_hang N m l s (nt (N (20 * l + 5)))) n m := by
  have hI := I
  obtain ⟨G, Z, A, L, R, zz, dd⟩ := I
  have hn := G.2.1
  have hm := G.2.2.2.1
  have hl5 : l < 5 := by omega
  have hs16 : s < 16 := by have := hs.1; omega
  have hlp := L l hl trivial
  have hrl := R l hl trivial
  obtain ⟨hL1, hR1⟩ := O_fr (v := 0) (w := 0) hn hm hl hs (LP_ne (l := l) L) (RL_ne (l := l) R)
  have hE := hE_of hI hl
  have AC : ag (upd (upd B (101 + 8 * s + 6) 0) (101 + 8 * s + 7) 0) (upd (upd N (101 + 8 * s + 6) 0) (101 + 8 * s + 7) 0) n m := ag_upd (ag_upd A _ _) _ _
  have ZC : bz (upd (upd B (101 + 8 * s + 6) 0) (101 + 8 * s + 7) 0) := bz_upd (bz_upd Z (Or.inl (Or.inl rfl))) (Or.inl (Or.inl rfl))
  have stC : stl B (upd (upd B (101 + 8 * s + 6) 0) (101 + 8 * s + 7) 0) := (stl_upd (st_su (by decide) (by decide))).trans (stl_upd (st_su (by decide) (by decide)))
  have cellB : ∀ x, x ≤ 100 → upd (upd B (101 + 8 * s + 6) 0) (101 + 8 * s + 7) 0 x = B x := fun x hx => by rw [upd_ne _ _ (by omega), upd_ne _ _ (by omega)]
  have cellN : ∀ x, x ≤ 100 → upd (upd N (101 + 8 * s + 6) 0) (101 + 8 * s + 7) 0 x = N x := fun x hx => by rw [upd_ne _ _ (by omega), upd_ne _ _ (by omega)]
  have zN1 : zfr N (upd (upd N (101 + 8 * s + 6) 0) (101 + 8 * s + 7) 0) n := (zfr_upd (Or.inr (by omega))).trans (zfr_upd (Or.inr (by omega)))
  have hO : ∀ t, cs_on (upd (upd B (101 + 8 * s + 6) 0) (101 + 8 * s + 7) 0) m l t = if t = s then false else cs_on B m l t := fun t => by
    rw [on6 (l := l) hl5]
    by_cases q : t = s
    · rw [if_pos q, if_pos q]; rfl
    · rw [if_neg q, if_neg q]
  have inC : cs_in (upd (upd B (101 + 8 * s + 6) 0) (101 + 8 * s + 7) 0) m l = cs_in B m l := funext fun t => in6 hl5
  have cc1 := cellB (20 * l + 1) (by omega)
  have cc3 := cellB (20 * l + 3) (by omega)
  have cc4 := cellB (20 * l + 4) (by omega)
  have cc5 := cellB (20 * l + 5) (by omega)
  have cc6 := cellB (20 * l + 6) (by omega)
  have hpt : mf_state N l s = 2 ↔ cs_party B l s ≠ 0 := by
    rw [rd_state A Z hn hl hs hrl]
    unfold cs_stand
    rw [if_neg h0]
    by_cases h2 : cs_cuts B l s = 0
    · have hc : cs_cut B l s = 0 := by unfold cs_cut; rw [if_pos h2]
      rw [if_neg (fun q => q hc)]
      by_cases hp : cs_party B l s = 0
      · rw [if_neg (fun q => q hp)]
        by_cases h7 : B (101 + 8 * s + 7) = 0
        · rw [if_pos h7]; simp [hp]
        · rw [if_neg h7]; simp [hp]
      · rw [if_pos hp]; simp [hp]
    · have hc : cs_cut B l s = 1 := by unfold cs_cut; rw [if_neg h2]
      have hp : cs_party B l s = 0 := party_off hs (by
        by_cases q : cs_on B m l s = true
        · exact absurd (on_iff.1 q).2.2 h2
        · simpa using q)
      rw [if_pos (by rw [hc]; decide)]
      simp [hp]
  by_cases hp : cs_party B l s = 0
  · -- no party
    have e1 : cs_hang B n m l s = upd (upd B (101 + 8 * s + 6) 0) (101 + 8 * s + 7) 0 := by simp only [cs_hang]; rw [if_pos hp]
    have e2 : mf_hang N m l s (nt (N (20 * l + 5))) = upd (upd N (101 + 8 * s + 6) 0) (101 + 8 * s + 7) 0 := by
      simp only [mf_hang]
      rw [if_neg (fun q => (hpt.1 q) hp)]
    rw [e1, e2]
    have np : cs_on B m l s = true → ¬ pty B l s := fun h q => (party_iff h).2 q hp
    have onC : ∀ x, onx (cs_on B m) l x → x ≠ nI s → onx (cs_on (upd (upd B (101 + 8 * s + 6) 0) (101 + 8 * s + 7) 0) m) l x := fun x ⟨t, h1, h2⟩ h3 => ⟨t, by rw [hO, if_neg (fun q => h3 (by rw [h2, q]))]; exact h1, h2⟩
    have nf : onx (cs_on B m) l (B (20 * l + 3)) → B (20 * l + 3) ≠ nI s := fun ⟨t, h1, h2⟩ h3 => by
      have : t = s := nI_inj (h2.symm.trans h3) (by have := (on_iff.1 h1).1.1; omega) (by omega)
      subst this
      exact np h1 (Or.inl h3)
    have quiet : (∀ t, cs_on B m l t = false) → ∀ t, cs_on (upd (upd B (101 + 8 * s + 6) 0) (101 + 8 * s + 7) 0) m l t = false := fun h t => by
      rw [hO]
      by_cases q : t = s
      · rw [if_pos q]
      · rw [if_neg q]; exact h t
    have lnkC : ∀ k, lnk B n l k → lnk (upd (upd B (101 + 8 * s + 6) 0) (101 + 8 * s + 7) 0) n l k := fun k ⟨e2, a1, a2, a3, a4, a5⟩ => ⟨e2, a1, a2, cc5.trans a3, (cellB _ (by omega)).trans a4, (cellB _ (by omega)).trans a5⟩
    have inx : ∀ x, onx (cs_in B m) l x → onx (cs_in (upd (upd B (101 + 8 * s + 6) 0) (101 + 8 * s + 7) 0) m) l x := fun x h => by unfold onx; rw [inC]; exact h
    refine Iv_of hI stC ZC AC (LP_all hL1 ?_) (RL_all hR1 ⟨fun t q1 q2 => ?_, fun t q => ?_⟩) zN1
    · obtain ⟨a, b0, b1, b2, b3, b4, b5, b6, b7, b8⟩ := hlp
      rcases a with p | p | p | p | p | p | p | p | p
      · have h := b0 p
        exact lpc_mk0 (cc1.trans p) ⟨cc3.trans h.1, cc4.trans h.2.1, cc5.trans h.2.2.1, cc6.trans h.2.2.2.1, quiet h.2.2.2.2⟩
      · have h := b1 p
        exact lpc_mk1 (cc1.trans p) ⟨by rw [cc3]; exact onC _ h.1 (nf h.1), cc4.trans h.2.1, cc5.trans h.2.2.1, cc6.trans h.2.2.2⟩
      · have h := b2 p
        exact lpc_mk2 (cc1.trans p) ⟨by rw [cc3]; exact onC _ h.1 (nf h.1), cc4.trans h.2.1, cc6.trans h.2.2.1, lnkC _ h.2.2.2⟩
      · have h := b3 p
        exact lpc_mk3 (cc1.trans p) ⟨by rw [cc3]; exact inx _ h.1, cc4.trans h.2.1, cc6.trans h.2.2.1, quiet h.2.2.2.1, lnkC _ h.2.2.2.2⟩
      · have h := b4 p
        exact lpc_mk4 (cc1.trans p) ⟨by rw [cc3]; exact onC _ h.1 (nf h.1), cc4.trans h.2.1, lnkC _ h.2.2⟩
      · have h := b5 p
        exact lpc_mk5 (cc1.trans p) ⟨by rw [cc3]; exact onC _ h.1 (nf h.1), cc4.trans h.2.1, cc5.trans h.2.2.1, cc6.trans h.2.2.2⟩
      · have h := b6 p
        exact lpc_mk6 (cc1.trans p) ⟨by rw [cc3]; exact onC _ h.1 (nf h.1), by rw [cc4]; exact inx _ h.2.1, cc5.trans h.2.2.1, cc6.trans h.2.2.2⟩
      · have h := b7 p
        exact lpc_mk7 (cc1.trans p) ⟨by rw [cc3]; exact inx _ h.1, by rw [cc4]; exact inx _ h.2.1, cc5.trans h.2.2.1, cc6.trans h.2.2.2.1, quiet h.2.2.2.2⟩
      · have h := b8 p
        have h9 : B (20 * l + 4) ≠ nI s := fun h3 => by
          obtain ⟨t, h1, h2⟩ := h.2.1
          have : t = s := nI_inj (h2.symm.trans h3) (by have := (on_iff.1 h1).1.1; omega) (by omega)
          subst this
          exact np h1 (Or.inr ⟨p, h3⟩)
        exact lpc_mk8 (cc1.trans p) ⟨by rw [cc3]; exact inx _ h.1, by rw [cc4]; exact onC _ h.2.1 h9, cc5.trans h.2.2.1, cc6.trans h.2.2.2⟩
    · by_cases q : t = s
      · subst q; rw [upd_self] at q2; exact absurd rfl q2
      · rw [hO, if_neg q]
        rw [upd_ne _ _ (by omega), upd_ne _ _ (by omega)] at q2
        exact hrl.1 t (by unfold mem at q1 ⊢; rw [upd_ne _ _ (by omega), upd_ne _ _ (by omega)] at q1; exact q1) q2
    · rw [hO] at q
      by_cases e : t = s
      · rw [if_pos e] at q; cases q
      · rw [if_neg e] at q
        rw [upd_ne _ _ (show 101 + 8 * t + 7 ≠ 101 + 8 * s + 7 by omega), upd_ne _ _ (show 101 + 8 * t + 7 ≠ 101 + 8 * s + 6 by omega), upd_ne _ _ (show 101 + 8 * t + 7 ≠ 101 + 8 * s + 7 by omega), upd_ne _ _ (show 101 + 8 * t + 7 ≠ 101 + 8 * s + 6 by omega)]
        unfold pty
        rw [cc1, cc3, cc4]
        exact hrl.2 t q
  · -- a party
    have hst : mf_state N l s = 2 := hpt.2 hp
    have ending : cs_hang B n m l s = cs_end (upd (upd B (101 + 8 * s + 6) 0) (101 + 8 * s + 7) 0) n m l → mf_hang N m l s (nt (N (20 * l + 5))) = mf_end (upd (upd N (101 + 8 * s + 6) 0) (101 + 8 * s + 7) 0) m l (nt (N (20 * l + 5))) → Iv (cs_hang B n m l s) (mf_hang N m l s (nt (N (20 * l + 5)))) n m := fun e1 e2 => by
      rw [e1, e2]
      refine Iv_end hI hl stC ZC AC hL1 hR1 ?_ zN1
      rw [cc5]
      rcases hE with h | ⟨h1, h2, h3, h4⟩
      · exact Or.inl h
      · exact Or.inr ⟨h1, h2, h3, (cellB _ (by omega)).trans h4⟩
    have hphN : N (20 * l + 1) = B (20 * l + 1) := ag_l A hl (by omega) (by omega)
    by_cases h6 : B (20 * l + 1) = 6
    · by_cases hlow : cs_low (upd (upd B (101 + 8 * s + 6) 0) (101 + 8 * s + 7) 0) m l = -1
      · have e1 : cs_hang B n m l s = mf_comes (upd (upd B (101 + 8 * s + 6) 0) (101 + 8 * s + 7) 0) l 7 (B (20 * l + 3)) (B (20 * l + 4)) (-1) := by
          simp only [cs_hang]
          rw [if_neg hp, cc1, if_pos h6, if_pos hlow, ct7, cc3, cc4]
        have e2 : mf_hang N m l s (nt (N (20 * l + 5))) = mf_comes (upd (upd N (101 + 8 * s + 6) 0) (101 + 8 * s + 7) 0) l 7 (B (20 * l + 3)) (B (20 * l + 4)) (-1) := by
          simp only [mf_hang]
          rw [if_pos hst, hphN, if_pos h6, if_pos ((any_low AC ZC hn hm hl).2 hlow), cellN _ (by omega), cellN _ (by omega), ag_l A hl (by omega) (by omega), ag_l A hl (by omega) (by omega)]
        have h := hlp.2.2.2.2.2.2.2.1 h6
        have quiet : ∀ t, cs_on (upd (upd B (101 + 8 * s + 6) 0) (101 + 8 * s + 7) 0) m l t = false := by
          rcases low_ch (B := upd (upd B (101 + 8 * s + 6) 0) (101 + 8 * s + 7) 0) (m := m) (l := l) hm with ⟨_, g2⟩ | ⟨t, g1, g2, g3, g4⟩
          · exact g2
          · exact absurd (hlow.symm.trans g2).symm (nI_m1 (by omega))
        have hX : ∀ l2, l2 < n → l2 ≠ l → upd (upd B (101 + 8 * s + 6) 0) (101 + 8 * s + 7) 0 (20 * l2 + 5) ≠ nI l := fun l2 h2 hne => by rw [cellB _ (by omega)]; exact noX hn hl (LP_ne L) h.2.2.1 l2 h2 hne
        obtain ⟨k1, k2⟩ := C_one (p := 7) (f := B (20 * l + 3)) (q := B (20 * l + 4)) (e := -1) hn hm hl hL1 hX hR1
        have smc : sm (upd (upd B (101 + 8 * s + 6) 0) (101 + 8 * s + 7) 0) (mf_comes (upd (upd B (101 + 8 * s + 6) 0) (101 + 8 * s + 7) 0) l 7 (B (20 * l + 3)) (B (20 * l + 4)) (-1)) m := sm_comes hl5 hm
        rw [e1, e2]
        refine Iv_of hI (stC.trans (stl_comes hl5)) (bz_comes hl5 ZC) (ag_comes AC) (LP_all k1 (lpc_mk7 (co1 _ _ _ _ _ _) ⟨?_, ?_, co5 _ _ _ _ _ _, co6 _ _ _ _ _ _, fun t => by rw [sm_on smc hl5]; exact quiet t⟩)) (RL_all k2 ⟨fun t q1 q2 => ?_, fun t q => ?_⟩) (zN1.trans (zfr_comes hl))
        · rw [co3]
          obtain ⟨t, t1, t2⟩ := h.1
          exact ⟨t, by rw [sm_in smc hl5, inC]; exact in_iff.2 ⟨(on_iff.1 t1).1, (on_iff.1 t1).2.2⟩, t2⟩
        · rw [co4]
          obtain ⟨t, t1, t2⟩ := h.2.1
          exact ⟨t, by rw [sm_in smc hl5, inC]; exact t1, t2⟩
        · exfalso
          rw [sm_mem smc] at q1
          rw [mcomes_ne (by have := q1.1; omega)] at q2
          by_cases e : t = s
          · subst e; rw [upd_self] at q2; exact q2 rfl
          · rw [upd_ne _ _ (by omega), upd_ne _ _ (by omega)] at q2
            have := hrl.1 t (by unfold mem at q1 ⊢; rw [upd_ne _ _ (by omega), upd_ne _ _ (by omega)] at q1; exact q1) q2
            have q3 := quiet t
            rw [hO, if_neg e, this] at q3; cases q3
        · rw [sm_on smc hl5, quiet t] at q; cases q
      · refine ending ?_ ?_
        · simp only [cs_hang]; rw [if_neg hp, cc1, if_pos h6, if_neg hlow]
        · simp only [mf_hang]
          rw [if_pos hst, hphN, if_pos h6, if_neg (fun q => hlow ((any_low AC ZC hn hm hl).1 q))]
    · refine ending ?_ ?_
      · simp only [cs_hang]; rw [if_neg hp, cc1, if_neg h6]
      · simp only [mf_hang]
        rw [if_pos hst, hphN, if_neg h6]
end
