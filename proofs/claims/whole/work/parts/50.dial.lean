/-! dialing -/
section
variable {B N : Nat → Int32} {n m : Nat}
theorem comes_comm (B : Nat → Int32) {l k : Nat} (h : l ≠ k) (p f q e p2 f2 q2 e2 : Int32) : mf_comes (mf_comes B l p f q e) k p2 f2 q2 e2 = mf_comes (mf_comes B k p2 f2 q2 e2) l p f q e := by
  funext x
  by_cases h1 : ∃ j, 1 ≤ j ∧ j ≤ 6 ∧ x = 20 * l + j
  · obtain ⟨j, a, b, rfl⟩ := h1
    rw [mcomes_ne (l := k) (by omega)]
    rcases (show j = 1 ∨ j = 2 ∨ j = 3 ∨ j = 4 ∨ j = 5 ∨ j = 6 by omega) with rfl | rfl | rfl | rfl | rfl | rfl
    · rw [co1, co1]
    · rw [co2, co2]
    · rw [co3, co3]
    · rw [co4, co4]
    · rw [co5, co5]
    · rw [co6, co6]
  · have hx : ∀ j, 1 ≤ j → j ≤ 6 → x ≠ 20 * l + j := fun j a b c => h1 ⟨j, a, b, c⟩
    rw [mcomes_ne (l := l) hx]
    by_cases h2 : ∃ j, 1 ≤ j ∧ j ≤ 6 ∧ x = 20 * k + j
    · obtain ⟨j, a, b, rfl⟩ := h2
      rcases (show j = 1 ∨ j = 2 ∨ j = 3 ∨ j = 4 ∨ j = 5 ∨ j = 6 by omega) with rfl | rfl | rfl | rfl | rfl | rfl
      · rw [co1, co1]
      · rw [co2, co2]
      · rw [co3, co3]
      · rw [co4, co4]
      · rw [co5, co5]
      · rw [co6, co6]
    · have hy : ∀ j, 1 ≤ j → j ≤ 6 → x ≠ 20 * k + j := fun j a b c => h2 ⟨j, a, b, c⟩
      rw [mcomes_ne hy, mcomes_ne hx, mcomes_ne hy]
theorem rd_ld (A : ag B N n m) (Z : bz B) (hn : n ≤ 5) (hm16 : m ≤ 16) {l s e le : Nat} (hl : l < n) (hs : mem B m l s) (hle : le < n) (he : mem B m le e) : mf_ld N l s e le = cs_dials B m s (nI e) := by
  unfold mf_ld cs_dials
  rw [lk_nI he.1 hm16]
  show _ = if nI e = nI s then (5 : Int32) else if cs_cut B (hm B e) e = 0 then (if B (101 + 8 * e + 1) = B (101 + 8 * s + 1) then 6 else if B (20 * hm B e + 1) = 0 then 2 else 5) else 5
  rw [hm_of he.2 (by omega), rd_cut A Z hn hle he.1, he.2, hs.2, ag_l A hle (by omega) (by omega)]
  by_cases h1 : nI e = nI s
  · rw [if_pos h1, if_pos h1]
  · rw [if_neg h1, if_neg h1]
    unfold cs_cut
    by_cases h2 : cs_cuts B le e = 0
    · rw [if_pos h2, if_pos h2, if_pos rfl]
    · rw [if_neg h2, if_neg h2, if_neg (show ¬ (1 : Int32) = 0 by decide)]
/-- to tone -/
theorem S_tone {l s : Nat} (I : Iv B N n m) (hl : l < n) (hp : B (20 * l + 1) = 1) (hf : B (20 * l + 3) = nI s) : Iv (cs_inc (mf_comes B l 5 (nI s) (-1) (-1)) 234) (cs_inc (mf_comes N l 5 (nI s) (-1) (-1)) 234) n m := by
  have hI := I
  obtain ⟨G, Z, A, L, R, zz, dd⟩ := I
  have hn := G.2.1
  have hm := G.2.2.2.1
  have hl5 : l < 5 := by omega
  have h := (L l hl trivial).2.2.1 hp
  have smc : sm B (mf_comes B l 5 (nI s) (-1) (-1)) m := sm_comes hl5 hm
  obtain ⟨k1, k2⟩ := C_one (p := 5) (f := nI s) (q := -1) (e := -1) hn hm hl (LP_ne (l := l) L) (noX hn hl (LP_ne L) h.2.2.1) (RL_ne (l := l) R)
  refine Iv_inc (Iv_of hI (stl_comes hl5) (bz_comes hl5 Z) (ag_comes A) (LP_all k1 (lpc_mk5 (co1 _ _ _ _ _ _) ⟨?_, co4 _ _ _ _ _ _, co5 _ _ _ _ _ _, co6 _ _ _ _ _ _⟩)) (RL_all k2 (rlo_fr (R l hl trivial) (fun t => sm_mem smc) (fun t => by rw [sm_on smc hl5]) (fun t _ => ?_) (fun t q => mcomes_ne (by have := q.1; omega)) (fun t q => mcomes_ne (by have := (on_iff.1 q).1.1; omega)))) (zfr_comes hl)) (by decide) (by decide)
  · rw [co3]
    obtain ⟨t, t1, t2⟩ := h.1
    exact ⟨t, by rw [sm_on smc hl5]; exact t1, hf.symm.trans t2⟩
  · unfold pty
    rw [co1, co3, hp, hf]
    simp
/-- to one's own loop -/
theorem S_hold {l s e : Nat} (I : Iv B N n m) (hl : l < n) (hp : B (20 * l + 1) = 1) (hf : B (20 * l + 3) = nI s) (he : cs_in B m l e = true) : Iv (mf_comes B l 6 (nI s) (nI e) (-1)) (mf_comes N l 6 (nI s) (nI e) (-1)) n m := by
  have hI := I
  obtain ⟨G, Z, A, L, R, zz, dd⟩ := I
  have hn := G.2.1
  have hm := G.2.2.2.1
  have hl5 : l < 5 := by omega
  have h := (L l hl trivial).2.2.1 hp
  have smc : sm B (mf_comes B l 6 (nI s) (nI e) (-1)) m := sm_comes hl5 hm
  obtain ⟨k1, k2⟩ := C_one (p := 6) (f := nI s) (q := nI e) (e := -1) hn hm hl (LP_ne (l := l) L) (noX hn hl (LP_ne L) h.2.2.1) (RL_ne (l := l) R)
  refine Iv_of hI (stl_comes hl5) (bz_comes hl5 Z) (ag_comes A) (LP_all k1 (lpc_mk6 (co1 _ _ _ _ _ _) ⟨?_, ⟨e, by rw [sm_in smc hl5]; exact he, co4 _ _ _ _ _ _⟩, co5 _ _ _ _ _ _, co6 _ _ _ _ _ _⟩)) (RL_all k2 (rlo_fr (R l hl trivial) (fun t => sm_mem smc) (fun t => by rw [sm_on smc hl5]) (fun t _ => ?_) (fun t q => mcomes_ne (by have := q.1; omega)) (fun t q => mcomes_ne (by have := (on_iff.1 q).1.1; omega)))) (zfr_comes hl)
  · rw [co3]
    obtain ⟨t, t1, t2⟩ := h.1
    exact ⟨t, by rw [sm_on smc hl5]; exact t1, hf.symm.trans t2⟩
  · unfold pty
    rw [co1, co3, hp, hf]
    simp
/-- to another loop -/
theorem S_call {l s e le : Nat} (I : Iv B N n m) (hl : l < n) (hp : B (20 * l + 1) = 1) (hf : B (20 * l + 3) = nI s) (hle : le < n) (hne : le ≠ l) (he : cs_in B m le e = true) (hpe : B (20 * le + 1) = 0) : Iv (mf_comes (mf_comes B le 3 (nI e) (-1) (nI l)) l 2 (nI s) (-1) (nI le)) (mf_comes (mf_comes N le 3 (nI e) (-1) (nI l)) l 2 (nI s) (-1) (nI le)) n m := by
  have hI := I
  obtain ⟨G, Z, A, L, R, zz, dd⟩ := I
  have hn := G.2.1
  have hm := G.2.2.2.1
  have hl5 : l < 5 := by omega
  have hle5 : le < 5 := by omega
  have h := (L l hl trivial).2.2.1 hp
  have g := (L le hle trivial).2.1 hpe
  have smc : sm B (mf_comes (mf_comes B le 3 (nI e) (-1) (nI l)) l 2 (nI s) (-1) (nI le)) m := (sm_comes hle5 hm).trans (sm_comes hl5 hm)
  have X1 := noX hn hl (LP_ne L) h.2.2.1
  have X2 := noX hn hle (LP_ne L) g.2.2.1
  have dl : ∀ k, 1 ≤ k → k ≤ 6 → mf_comes (mf_comes B le 3 (nI e) (-1) (nI l)) l 2 (nI s) (-1) (nI le) (20 * le + k) = mf_comes B le 3 (nI e) (-1) (nI l) (20 * le + k) := fun k a b => mcomes_ne (by omega)
  have dx : ∀ l2 k, l2 ≠ l → l2 ≠ le → 1 ≤ k → k ≤ 6 → mf_comes (mf_comes B le 3 (nI e) (-1) (nI l)) l 2 (nI s) (-1) (nI le) (20 * l2 + k) = B (20 * l2 + k) := fun l2 k q1 q2 a b => by rw [mcomes_ne (by omega), mcomes_ne (by omega)]
  have d7 : ∀ t, t < 16 → mf_comes (mf_comes B le 3 (nI e) (-1) (nI l)) l 2 (nI s) (-1) (nI le) (101 + 8 * t + 7) = B (101 + 8 * t + 7) := fun t ht => by rw [mcomes_ne (by omega), mcomes_ne (by omega)]
  have n7 : ∀ t, t < 16 → mf_comes (mf_comes N le 3 (nI e) (-1) (nI l)) l 2 (nI s) (-1) (nI le) (101 + 8 * t + 7) = N (101 + 8 * t + 7) := fun t ht => by rw [mcomes_ne (by omega), mcomes_ne (by omega)]
  refine Iv_of hI ((stl_comes hle5).trans (stl_comes hl5)) (bz_comes hl5 (bz_comes hle5 Z)) (ag_comes (ag_comes A)) (fun l2 h2 _ => ?_) (fun l2 h2 _ => ?_) ((zfr_comes hle).trans (zfr_comes hl))
  · by_cases q1 : l2 = l
    · subst q1
      refine lpc_mk2 (co1 _ _ _ _ _ _) ⟨?_, co4 _ _ _ _ _ _, co6 _ _ _ _ _ _, ⟨le, hle, hne, co5 _ _ _ _ _ _, by rw [dl 1 (by decide) (by decide), co1], by rw [dl 5 (by decide) (by decide), co5]⟩⟩
      rw [co3]
      obtain ⟨t, t1, t2⟩ := h.1
      exact ⟨t, by rw [sm_on smc hl5]; exact t1, hf.symm.trans t2⟩
    · by_cases q2 : l2 = le
      · subst q2
        exact lpc_mk3 (by rw [dl 1 (by decide) (by decide), co1]) ⟨by rw [dl 3 (by decide) (by decide), co3]; exact ⟨e, by rw [sm_in smc hle5]; exact he, rfl⟩, by rw [dl 4 (by decide) (by decide), co4], by rw [dl 6 (by decide) (by decide), co6], fun t => by rw [sm_on smc hle5]; exact g.2.2.2.2 t, ⟨l, hl, Ne.symm hne, by rw [dl 5 (by decide) (by decide), co5], co1 _ _ _ _ _ _, co5 _ _ _ _ _ _⟩⟩
      · refine lpc_fr (L l2 h2 trivial) (dx l2 1 q1 q2 (by decide) (by decide)) (dx l2 3 q1 q2 (by decide) (by decide)) (dx l2 4 q1 q2 (by decide) (by decide)) (dx l2 5 q1 q2 (by decide) (by decide)) (dx l2 6 q1 q2 (by decide) (by decide)) (sm_on smc (by omega)) (sm_in smc (by omega)) (fun e3 c1 c2 c3 c4 => ?_)
        have n1 : e3 ≠ l := fun q => by subst q; exact X1 l2 h2 q1 c3
        have n2 : e3 ≠ le := fun q => by subst q; exact X2 l2 h2 q2 c3
        exact ⟨dx e3 1 n1 n2 (by decide) (by decide), dx e3 5 n1 n2 (by decide) (by decide)⟩
  · refine rlo_fr (R l2 h2 trivial) (fun t => sm_mem smc) (fun t => by rw [sm_on smc (by omega)]) (fun t q => ?_) (fun t q => d7 t (by have := q.1; omega)) (fun t q => n7 t (by have := (on_iff.1 q).1.1; omega))
    by_cases q1 : l2 = l
    · subst q1
      unfold pty
      rw [co1, co3, hp, hf]
      simp
    · by_cases q2 : l2 = le
      · subst q2; rw [g.2.2.2.2 t] at q; cases q
      · unfold pty
        rw [dx l2 1 q1 q2 (by decide) (by decide), dx l2 3 q1 q2 (by decide) (by decide), dx l2 4 q1 q2 (by decide) (by decide)]
/-- the class's dialing, by where it leads -/
theorem dial_n {l s : Nat} {x : Int32} (hf : B (20 * l + 3) = nI s) (h : cs_dials B m s x = 5) : cs_dial B m l s x = cs_inc (mf_comes B l 5 (nI s) (-1) (-1)) 234 := by
  simp only [cs_dial]
  rw [h, if_pos rfl, ct5, hf]
theorem dial_h {l s : Nat} {x : Int32} (hf : B (20 * l + 3) = nI s) (h : cs_dials B m s x = 6) : cs_dial B m l s x = mf_comes B l 6 (nI s) x (-1) := by
  simp only [cs_dial]
  rw [h, if_neg (show ¬ (6 : Int32) = 5 by decide), if_pos rfl, ct6, hf, comes_q]
theorem dial_c {l s e le : Nat} (hm16 : m ≤ 16) (hf : B (20 * l + 3) = nI s) (he : e < m) (hle : le < 5) (hh : B (101 + 8 * e + 1) = nI le) (hne : le ≠ l) (h : cs_dials B m s (nI e) = 2) : cs_dial B m l s (nI e) = mf_comes (mf_comes B le 3 (nI e) (-1) (nI l)) l 2 (nI s) (-1) (nI le) := by
  simp only [cs_dial]
  rw [h, if_neg (show ¬ (2 : Int32) = 5 by decide), if_neg (show ¬ (2 : Int32) = 6 by decide), lk_nI he hm16]
  show cs_ring (cs_comeTo B l 2) l e (hm B e) = _
  rw [hm_of hh hle, ct2, hf]
  unfold cs_ring
  rw [cw3, comes_e, comes_comm B (Ne.symm hne), comes_e]
end
