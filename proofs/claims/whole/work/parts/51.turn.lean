/-! turns and ticks -/
section
variable {B N : Nat → Int32} {n m : Nat}
theorem S_endI {l : Nat} (I : Iv B N n m) (hl : l < n) : Iv (cs_end B n m l) (mf_end N m l (nt (N (20 * l + 5)))) n m := Iv_end I hl stl.rfl' I.2.1 I.2.2.1 (LP_ne I.2.2.2.1) (RL_ne I.2.2.2.2.1) (hE_of I hl) zfr.rfl'
theorem rd_lck (A : ag B N n m) (Z : bz B) (hn : n ≤ 5) (hm16 : m ≤ 16) {l : Nat} (hl : l < n) (R : rlo B N m l) : orF (mf_lck N l) m 0 = 0 ↔ cs_locks B m l = 0 := by
  have h01 : ∀ j, mf_lck N l j = 0 ∨ mf_lck N l j = 1 := fun j => by unfold mf_lck; split <;> (try split) <;> simp
  rw [orF_0 h01]
  have st4 : ∀ j, mem B m l j → (cs_stand B l j = 4 ↔ B (101 + 8 * j + 7) ≠ 0) := fun j hj => by
    unfold cs_stand
    constructor
    · intro h h7
      revert h
      rw [if_pos h7]
      split
      · decide
      · split
        · decide
        · split <;> decide
    · intro h7
      have hon := R.1 j hj h7
      have hp : cs_party B l j = 0 := by
        by_cases q : cs_party B l j = 0
        · exact q
        · exact absurd ((R.2 j hon).1 ((party_iff hon).1 q)).1 h7
      obtain ⟨_, a, b⟩ := on_iff.1 hon
      have hc : cs_cut B l j = 0 := by unfold cs_cut; rw [if_pos b]
      rw [if_neg a, if_neg (show ¬ cs_cut B l j ≠ 0 from fun q => q hc), if_neg (show ¬ cs_party B l j ≠ 0 from fun q => q hp), if_neg h7]
  unfold cs_locks
  constructor
  · intro h
    rw [if_neg]
    intro h2
    obtain ⟨j, _, _, h5⟩ := (anyF_iff 16 0).1 h2
    simp only [cs_lck, Bool.and_eq_true, decide_eq_true_eq] at h5
    obtain ⟨hj, h7⟩ := h5
    have := h j (by omega) (by have := hj.1; omega)
    unfold mf_lck at this
    rw [ag_s A hj.1 (by omega) (by omega) (by omega), if_pos hj.2, rd_state A Z hn hl hj R, if_pos ((st4 j hj).2 h7)] at this
    exact absurd this (by decide)
  · intro h j _ hj
    have hj : j < m := by omega
    unfold mf_lck
    rw [ag_s A hj (by omega) (by omega) (by omega)]
    by_cases h1 : B (101 + 8 * j + 1) = nI l
    · have hmj : mem B m l j := ⟨hj, h1⟩
      rw [if_pos h1, rd_state A Z hn hl hmj R]
      by_cases h7 : B (101 + 8 * j + 7) = 0
      · rw [if_neg (fun q => (st4 j hmj).1 q h7)]
      · exfalso
        have : anyF (cs_lck B m l) 16 0 = true := by
          rw [anyF_iff]
          exact ⟨j, by omega, by omega, by simp [cs_lck, hmj, h7]⟩
        rw [if_pos this] at h
        exact absurd h (by decide)
    · rw [if_neg h1]
theorem S_cell {x : Nat} {v : Int32} (I : Iv B N n m) (hx : (∃ l, l < 5 ∧ (x = 20 * l + 2 ∨ ∃ k, 9 ≤ k ∧ k ≤ 20 ∧ x = 20 * l + k)) ∨ (∃ s, s < 16 ∧ x = 101 + 8 * s + 8)) (hz : x ≤ 20 * n ∨ 100 < x) : Iv (upd B x v) (upd N x v) n m := by
  have hn := I.1.2.1
  have hm := I.1.2.2.2.1
  have k1 : ∀ l2 k2, l2 < 5 → 1 ≤ k2 → k2 ≤ 8 → k2 ≠ 2 → x ≠ 20 * l2 + k2 := fun l2 k2 _ _ _ _ => by
    rcases hx with ⟨l, _, h | ⟨k, _, _, h⟩⟩ | ⟨s, _, h⟩ <;> omega
  have k2 : ∀ s, s < 16 → x ≠ 101 + 8 * s + 1 ∧ x ≠ 101 + 8 * s + 2 ∧ x ≠ 101 + 8 * s + 6 ∧ x ≠ 101 + 8 * s + 7 := fun s _ => by
    rcases hx with ⟨l, _, h | ⟨k, _, _, h⟩⟩ | ⟨s, _, h⟩ <;> omega
  have k3 : ∀ s, s < 16 → x ≠ 101 + 8 * s + 4 := fun s _ => by
    rcases hx with ⟨l, _, h | ⟨k, _, _, h⟩⟩ | ⟨s, _, h⟩ <;> omega
  have k4 : ¬ st x := by
    unfold st
    rcases hx with ⟨l, _, h | ⟨k, _, _, h⟩⟩ | ⟨s, _, h⟩ <;> omega
  refine Iv_of I (stl_upd k4) (bz_upd I.2.1 (Or.inr ⟨fun l hl => ⟨k1 l 6 hl (by decide) (by decide) (by decide), k1 l 8 hl (by decide) (by decide) (by decide)⟩, fun s hs => ⟨k3 s hs, (k2 s hs).2.2.1, (k2 s hs).2.2.2⟩⟩)) (ag_upd I.2.2.1 _ _) (LP_cell hn hm k1 (fun s hs => ⟨(k2 s (by omega)).1, (k2 s (by omega)).2.1, (k2 s (by omega)).2.2.1⟩) I.2.2.2.1) (RL_cell hn hm k1 (fun s hs => k2 s (by omega)) I.2.2.2.2.1) (zfr_upd hz)
theorem tcode_s {f : Nat} {x : Int32} (hm16 : m ≤ 16) (h : x = nI f) (hf : f < m) : cs_tcode B m x = tc_len (B (101 + 8 * f + 3)) := by
  unfold cs_tcode
  rw [h, lk_nI hf hm16]
theorem tcode_n : cs_tcode B m (-1) = 0 := by
  unfold cs_tcode
  rw [lk_m1]
theorem nt_nI {k : Nat} (h : k < 2 ^ 31) : nt (nI k) = k := nI_clamp h
theorem S_turn {l : Nat} (I : Iv B N n m) (hl : l < n) : Iv (cs_turn B n m l) (mf_go N m l) n m := by
  have hI := I
  obtain ⟨G, Z, A, L, R, zz, dd⟩ := I
  have hn := G.2.1
  have hm := G.2.2.2.1
  have hl5 : l < 5 := by omega
  have hlp := L l hl trivial
  have hrl := R l hl trivial
  have n1 : N (20 * l + 1) = B (20 * l + 1) := ag_l A hl (by omega) (by omega)
  have n2 : N (20 * l + 2) = B (20 * l + 2) := ag_l A hl (by omega) (by omega)
  have n3 : N (20 * l + 3) = B (20 * l + 3) := ag_l A hl (by omega) (by omega)
  have n4 : N (20 * l + 4) = B (20 * l + 4) := ag_l A hl (by omega) (by omega)
  have n6 : N (20 * l + 6) = B (20 * l + 6) := ag_l A hl (by omega) (by omega)
  have n5 : N (20 * l + 5) = B (20 * l + 5) := ag_l A hl (by omega) (by omega)
  have nlim : N 230 = B 230 := A 230 (us_c (by decide) (by decide))
  obtain ⟨a, b0, b1, b2, b3, b4, b5, b6, b7, b8⟩ := hlp
  have stay : ∀ k : Int32, B (20 * l + 1) = k → k ≠ 1 → k ≠ 3 → k ≠ 7 → k ≠ 4 → k ≠ 8 → B (20 * l + 6) = 0 → Iv (cs_turn B n m l) (mf_go N m l) n m := fun k hk q1 q3 q7 q4 q8 hc => by
    have e1 : cs_turn B n m l = B := by
      unfold cs_turn
      have hr : cs_rung B l = 0 := by unfold cs_rung; rw [hk, if_neg q3, if_neg q7]
      rw [if_neg (fun q => q1 (hk ▸ q.1)), if_neg (fun q => q.1 hr), if_neg]
      rintro (q | q)
      · exact q hc
      · exact q8 (hk ▸ q)
    have e2 : mf_go N m l = N := by
      unfold mf_go mf_goes
      rw [n1, hk, if_neg q1, if_neg q3, if_neg q7, if_neg q4, if_neg q8]
    rw [e1, e2]; exact hI
  rcases a with p | p | p | p | p | p | p | p | p
  · exact stay 0 p (by decide) (by decide) (by decide) (by decide) (by decide) (b0 p).2.2.2.1
  · -- seized
    have h := b1 p
    by_cases t : B (20 * l + 2) = 12
    · have e1 : cs_turn B n m l = mf_comes B l 5 (B (20 * l + 3)) (-1) (-1) := by
        unfold cs_turn; rw [if_pos ⟨p, t⟩, ct5]
      have e2 : mf_go N m l = mf_comes N l 5 (B (20 * l + 3)) (-1) (-1) := by
        unfold mf_go mf_goes; rw [n1, if_pos p, n2, if_pos t, n3]
      rw [e1, e2]
      have smc : sm B (mf_comes B l 5 (B (20 * l + 3)) (-1) (-1)) m := sm_comes hl5 hm
      obtain ⟨k1, k2⟩ := C_one (p := 5) (f := B (20 * l + 3)) (q := -1) (e := -1) hn hm hl (LP_ne (l := l) L) (noX hn hl (LP_ne L) h.2.2.1) (RL_ne (l := l) R)
      refine Iv_of hI (stl_comes hl5) (bz_comes hl5 Z) (ag_comes A) (LP_all k1 (lpc_mk5 (co1 _ _ _ _ _ _) ⟨?_, co4 _ _ _ _ _ _, co5 _ _ _ _ _ _, co6 _ _ _ _ _ _⟩)) (RL_all k2 (rlo_fr hrl (fun t => sm_mem smc) (fun t => by rw [sm_on smc hl5]) (fun t _ => ?_) (fun t q => mcomes_ne (by have := q.1; omega)) (fun t q => mcomes_ne (by have := (on_iff.1 q).1.1; omega)))) (zfr_comes hl)
      · rw [co3]
        obtain ⟨t, t1, t2⟩ := h.1
        exact ⟨t, by rw [sm_on smc hl5]; exact t1, t2⟩
      · unfold pty
        rw [co1, co3, p]
        simp
    · have e1 : cs_turn B n m l = B := by
        unfold cs_turn
        have hr : cs_rung B l = 0 := by unfold cs_rung; rw [p]; decide
        rw [if_neg (fun q => t q.2), if_neg (fun q => q.1 hr), if_neg]
        rintro (q | q)
        · exact q h.2.2.2
        · rw [p] at q; exact absurd q (by decide)
      have e2 : mf_go N m l = N := by
        unfold mf_go mf_goes; rw [n1, if_pos p, n2, if_neg t]
      rw [e1, e2]; exact hI
  · exact stay 2 p (by decide) (by decide) (by decide) (by decide) (by decide) (b2 p).2.2.1
  · -- ringing
    have h := b3 p
    obtain ⟨f, f1, f2⟩ := h.1
    have hfm := (in_iff.1 f1).1.1
    have hr : cs_rung B l ≠ 0 := by unfold cs_rung; rw [if_pos p]; decide
    have hc8 : ¬ (B (20 * l + 6) ≠ 0 ∨ B (20 * l + 1) = 8) := by
      rintro (q | q)
      · exact q h.2.2.1
      · rw [p] at q; exact absurd q (by decide)
    have hround : cs_tround B m l = tc_len (B (101 + 8 * f + 3)) := by
      unfold cs_tround
      rw [h.2.1, tcode_n, tcode_s hm f2 hfm]
      simp
    have hgo : mf_go N m l = if B (20 * l + 2) = 5 * tc_len (B (101 + 8 * f + 3)) then mf_end (cs_inc N 233) m l (nt (N (20 * l + 5))) else N := by
      unfold mf_go mf_goes
      rw [n1, if_neg (show ¬ B (20 * l + 1) = 1 by rw [p]; decide), if_pos p, n2, n3, f2, nt_nI (by omega), ag_s A hfm (by omega) (by omega) (by omega)]
    by_cases t : B (20 * l + 2) = 5 * tc_len (B (101 + 8 * f + 3))
    · have e1 : cs_turn B n m l = cs_end (cs_inc B 233) n m l := by
        unfold cs_turn
        rw [if_neg (fun q => by rw [p] at q; exact absurd q.1 (by decide)), if_pos]
        refine ⟨hr, ?_⟩
        unfold cs_lost
        rw [if_pos p, hround, if_pos t]; decide
      have r := S_endI (Iv_inc (k := 233) hI (by decide) (by decide)) hl
      rw [inc_hi (show 20 * l + 5 ≠ 233 by omega)] at r
      rw [e1, hgo, if_pos t]; exact r
    · have e1 : cs_turn B n m l = B := by
        unfold cs_turn
        rw [if_neg (fun q => by rw [p] at q; exact absurd q.1 (by decide)), if_neg, if_neg hc8]
        rintro ⟨_, q⟩
        refine q ?_
        unfold cs_lost
        rw [if_pos p, hround, if_neg t]
      rw [e1, hgo, if_neg t]; exact hI
  · -- talking
    have h := b4 p
    obtain ⟨f, f1, f2⟩ := h.1
    have hfm := (on_iff.1 f1).1.1
    obtain ⟨e, a1, a2, a3, a4, a5⟩ := h.2.2
    have hr : cs_rung B l = 0 := by unfold cs_rung; rw [p]; decide
    have hne : nt (N (20 * l + 5)) = e := by rw [n5, a3, nt_nI (by omega)]
    rcases (Z.1 l hl5).1 with c0 | c1
    · have e1 : cs_turn B n m l = B := by
        unfold cs_turn
        rw [if_neg (fun q => by rw [p] at q; exact absurd q.1 (by decide)), if_neg (fun q => q.1 hr), if_neg]
        rintro (q | q)
        · exact q c0
        · rw [p] at q; exact absurd q (by decide)
      have e2 : mf_go N m l = N := by
        unfold mf_go mf_goes
        rw [n1, if_neg (show ¬ B (20 * l + 1) = 1 by rw [p]; decide), if_neg (show ¬ B (20 * l + 1) = 3 by rw [p]; decide), if_neg (show ¬ B (20 * l + 1) = 7 by rw [p]; decide), if_pos p, n6, if_neg (by rw [c0]; decide)]
      rw [e1, e2]; exact hI
    · -- the caller's turn
      have hgo : mf_go N m l = (let N1 := upd N (101 + 8 * f + 8) (B (101 + 8 * f + 8) + (if B (20 * l + 2) - B (20 * l + 2) / 6 * 6 = 0 then 1 else 0)); if B (20 * l + 2) < B 230 then N1 else if orF (mf_lck N1 l) m 0 = 0 then (if orF (mf_lck N1 e) m 0 = 0 then N1 else mf_end N1 m l e) else mf_end N1 m l e) := by
        unfold mf_go mf_goes
        rw [n1, if_neg (show ¬ B (20 * l + 1) = 1 by rw [p]; decide), if_neg (show ¬ B (20 * l + 1) = 3 by rw [p]; decide), if_neg (show ¬ B (20 * l + 1) = 7 by rw [p]; decide), if_pos p, n6, if_pos c1, n2, n3, f2, nt_nI (by omega), ag_s A hfm (by omega) (by omega) (by omega), nlim, hne]
      have hun : cs_units B m l = upd B (101 + 8 * f + 8) (B (101 + 8 * f + 8) + (if B (20 * l + 2) - B (20 * l + 2) / 6 * 6 = 0 then 1 else 0)) := by
        unfold cs_units
        rw [f2, lk_nI hfm hm]
        show (if B (20 * l + 6) = 0 then B else if B (20 * l + 2) - B (20 * l + 2) / 6 * 6 = 0 then upd B (101 + 8 * f + 8) (B (101 + 8 * f + 8) + 1) else B) = _
        rw [if_neg (by rw [c1]; decide)]
        by_cases t : B (20 * l + 2) - B (20 * l + 2) / 6 * 6 = 0
        · rw [if_pos t, if_pos t]
        · rw [if_neg t, if_neg t, i32_add0, upd_id _ rfl]
      have I1 : Iv (cs_units B m l) (upd N (101 + 8 * f + 8) (B (101 + 8 * f + 8) + (if B (20 * l + 2) - B (20 * l + 2) / 6 * 6 = 0 then 1 else 0))) n m := by
        rw [hun]; exact S_cell hI (Or.inr ⟨f, by omega, rfl⟩) (Or.inr (by omega))
      have e1 : cs_turn B n m l = if cs_over (cs_units B m l) n m l = 0 then cs_units B m l else cs_end (cs_units B m l) n m l := by
        unfold cs_turn
        rw [if_neg (fun q => by rw [p] at q; exact absurd q.1 (by decide)), if_neg (fun q => q.1 hr), if_pos (Or.inl (by rw [c1]; decide))]
      generalize hN1 : upd N (101 + 8 * f + 8) (B (101 + 8 * f + 8) + (if B (20 * l + 2) - B (20 * l + 2) / 6 * 6 = 0 then 1 else 0)) = N1 at *
      generalize hB1 : cs_units B m l = B1 at *
      have b52 : ∀ x, x ≤ 100 ∨ x = 230 → B1 x = B x := fun x hx => by rw [hun, upd_ne _ _ (by omega)]
      have m52 : ∀ x, x ≤ 100 → N1 x = N x := fun x hx => by rw [← hN1, upd_ne _ _ (by omega)]
      have fin := S_endI I1 hl
      rw [m52 _ (by omega), hne] at fin
      have hov : cs_over B1 n m l = if B (20 * l + 2) ≥ B 230 then (if cs_locks B1 m l = 0 then (if cs_locks B1 m e = 0 then 0 else 1) else 1) else 0 := by
        unfold cs_over
        rw [b52 _ (Or.inl (by omega)), b52 _ (Or.inr rfl), b52 _ (Or.inl (by omega)), a3, lk_nI a1 (by omega)]
      have k1 := rd_lck I1.2.2.1 I1.2.1 hn hm hl (I1.2.2.2.2.1 l hl trivial)
      have k2 := rd_lck I1.2.2.1 I1.2.1 hn hm a1 (I1.2.2.2.2.1 e a1 trivial)
      rw [e1, hgo, hov]
      show Iv _ (if B (20 * l + 2) < B 230 then N1 else if orF (mf_lck N1 l) m 0 = 0 then (if orF (mf_lck N1 e) m 0 = 0 then N1 else mf_end N1 m l e) else mf_end N1 m l e) n m
      by_cases t : B (20 * l + 2) < B 230
      · rw [if_pos t, if_neg (show ¬ B (20 * l + 2) ≥ B 230 from Int32.not_le.mpr t), if_pos rfl]; exact I1
      · rw [if_neg t, if_pos (show B (20 * l + 2) ≥ B 230 from Int32.not_lt.mp t)]
        by_cases q1 : cs_locks B1 m l = 0
        · rw [if_pos q1, if_pos (k1.2 q1)]
          by_cases q2 : cs_locks B1 m e = 0
          · rw [if_pos q2, if_pos (k2.2 q2), if_pos rfl]; exact I1
          · rw [if_neg q2, if_neg (fun q => q2 (k2.1 q)), if_neg (show ¬ (1 : Int32) = 0 by decide)]; exact fin
        · rw [if_neg q1, if_neg (fun q => q1 (k1.1 q)), if_neg (show ¬ (1 : Int32) = 0 by decide)]; exact fin
  · exact stay 5 p (by decide) (by decide) (by decide) (by decide) (by decide) (b5 p).2.2.2
  · exact stay 6 p (by decide) (by decide) (by decide) (by decide) (by decide) (b6 p).2.2.2
  · -- reverting
    have h := b7 p
    obtain ⟨f, f1, f2⟩ := h.1
    have hfm := (in_iff.1 f1).1.1
    obtain ⟨q, q1, q2⟩ := h.2.1
    have hqm := (in_iff.1 q1).1.1
    have hr : cs_rung B l ≠ 0 := by unfold cs_rung; rw [p]; decide
    have hc8 : ¬ (B (20 * l + 6) ≠ 0 ∨ B (20 * l + 1) = 8) := by
      rintro (q | q)
      · exact q h.2.2.2.1
      · rw [p] at q; exact absurd q (by decide)
    have hround : cs_tround B m l = tc_len (B (101 + 8 * f + 3)) + tc_len (B (101 + 8 * q + 3)) := by
      unfold cs_tround
      rw [tcode_s hm q2 hqm, tcode_s hm f2 hfm, Int32.add_comm]
    have hgo : mf_go N m l = if B (20 * l + 2) = 4 * (tc_len (B (101 + 8 * f + 3)) + tc_len (B (101 + 8 * q + 3))) then mf_comes (cs_inc N 233) l 0 (-1) (-1) (-1) else N := by
      unfold mf_go mf_goes
      rw [n1, if_neg (show ¬ B (20 * l + 1) = 1 by rw [p]; decide), if_neg (show ¬ B (20 * l + 1) = 3 by rw [p]; decide), if_pos p, n2, n3, n4, f2, q2, nt_nI (by omega), nt_nI (by omega), ag_s A hfm (by omega) (by omega) (by omega), ag_s A hqm (by omega) (by omega) (by omega)]
    by_cases t : B (20 * l + 2) = 4 * (tc_len (B (101 + 8 * f + 3)) + tc_len (B (101 + 8 * q + 3)))
    · have e1 : cs_turn B n m l = cs_end (cs_inc B 233) n m l := by
        unfold cs_turn
        rw [if_neg (fun q => by rw [p] at q; exact absurd q.1 (by decide)), if_pos]
        refine ⟨hr, ?_⟩
        unfold cs_lost
        rw [if_neg (show ¬ B (20 * l + 1) = 3 by rw [p]; decide), hround, if_pos t]; decide
      have I1 := Iv_inc (k := 233) hI (by decide) (by decide)
      have r := S_endI I1 hl
      have em : mf_end (cs_inc N 233) m l (nt (cs_inc N 233 (20 * l + 5))) = mf_comes (cs_inc N 233) l 0 (-1) (-1) (-1) := by
        have quiet : ∀ s, s < m → mf_on (cs_inc N 233) l s = 0 := fun s hs => by
          rw [rd_on I1.2.2.1 I1.2.1 hn hm hl hs]
          have smc : sm B (cs_inc B 233) m := by unfold cs_inc; exact sm_upd (fun t _ => ⟨by omega, by omega, by omega⟩) (fun l2 _ => ⟨by omega, by omega⟩)
          rw [sm_on smc hl5, h.2.2.2.2 s]; rfl
        obtain ⟨v1, v2, v3⟩ := lv_ch hl5 m (cs_inc N 233) (-1)
        have elv : (mf_lv l m (cs_inc N 233) (-1)).1 = cs_inc N 233 := funext fun x => by
          rcases v1 x with q | ⟨s, h1, h2, _⟩
          · exact q
          · exact absurd (quiet s h1) h2
        have elv2 : (mf_lv l m (cs_inc N 233) (-1)).2 = -1 := by
          rcases v3 with ⟨q, _⟩ | ⟨s, h1, _, h3, _⟩
          · exact q
          · exact absurd (quiet s h1) h3
        unfold mf_end mf_far
        rw [if_pos (show cs_inc N 233 (20 * l + 5) = -1 by rw [inc_hi (by omega), n5]; exact h.2.2.1)]
        unfold mf_leave
        rw [if_pos elv2, elv]
      rw [em] at r
      rw [e1, hgo, if_pos t]; exact r
    · have e1 : cs_turn B n m l = B := by
        unfold cs_turn
        rw [if_neg (fun q => by rw [p] at q; exact absurd q.1 (by decide)), if_neg, if_neg hc8]
        rintro ⟨_, q⟩
        refine q ?_
        unfold cs_lost
        rw [if_neg (show ¬ B (20 * l + 1) = 3 by rw [p]; decide), hround, if_neg t]
      rw [e1, hgo, if_neg t]; exact hI
  · -- talking in the loop
    have h := b8 p
    have hr : cs_rung B l = 0 := by unfold cs_rung; rw [p]; decide
    have hun : cs_units B m l = B := by
      unfold cs_units
      cases lk m (B (20 * l + 3)) with
      | none => rfl
      | some e => show (if B (20 * l + 6) = 0 then B else _) = B; rw [if_pos h.2.2.2]
    have hov : cs_over B n m l = if B (20 * l + 2) ≥ B 230 then (if cs_locks B m l = 0 then 0 else 1) else 0 := by
      unfold cs_over
      rw [h.2.2.1, lk_m1]
    have e1 : cs_turn B n m l = if cs_over B n m l = 0 then B else cs_end B n m l := by
      unfold cs_turn
      rw [if_neg (fun q => by rw [p] at q; exact absurd q.1 (by decide)), if_neg (fun q => q.1 hr), if_pos (Or.inr p), hun]
    have hgo : mf_go N m l = if B (20 * l + 2) < B 230 then N else if orF (mf_lck N l) m 0 = 0 then N else mf_end N m l (nt (N (20 * l + 5))) := by
      unfold mf_go mf_goes
      rw [n1, if_neg (show ¬ B (20 * l + 1) = 1 by rw [p]; decide), if_neg (show ¬ B (20 * l + 1) = 3 by rw [p]; decide), if_neg (show ¬ B (20 * l + 1) = 7 by rw [p]; decide), if_neg (show ¬ B (20 * l + 1) = 4 by rw [p]; decide), if_pos p, n2, nlim]
    have k1 := rd_lck A Z hn hm hl hrl
    have fin := S_endI hI hl
    rw [e1, hgo, hov]
    by_cases t : B (20 * l + 2) < B 230
    · rw [if_pos t, if_neg (show ¬ B (20 * l + 2) ≥ B 230 from Int32.not_le.mpr t), if_pos rfl]; exact hI
    · rw [if_neg t, if_pos (show B (20 * l + 2) ≥ B 230 from Int32.not_lt.mp t)]
      by_cases q1 : cs_locks B m l = 0
      · rw [if_pos q1, if_pos (k1.2 q1), if_pos rfl]; exact hI
      · rw [if_neg q1, if_neg (fun q => q1 (k1.1 q)), if_neg (show ¬ (1 : Int32) = 0 by decide)]; exact fin
theorem S_tims : ∀ (k i : Nat) (B N : Nat → Int32), i + k = 5 → i ≤ n → Iv B N n m → Iv (cs_tim n k i B) (mf_tims (n - i) i N) n m
  | 0, i, B, N, hk, hi, I => by
    have := I.1.2.1
    have e : n - i = 0 := by omega
    rw [e]; exact I
  | k + 1, i, B, N, hk, hi, I => by
    unfold cs_tim
    by_cases h : i < n
    · obtain ⟨d, hd⟩ : ∃ d, n - i = d + 1 := ⟨n - i - 1, by omega⟩
      have e : n - (i + 1) = d := by omega
      rw [if_pos h, hd]
      unfold mf_tims
      rw [ag_l I.2.2.1 h (by omega) (by omega)]
      have r := S_tims k (i + 1) _ _ (by omega) (by omega) (S_cell (v := B (20 * i + 2) + 1) I (Or.inl ⟨i, by omega, Or.inl rfl⟩) (Or.inl (by omega)))
      rw [e] at r; exact r
    · rw [if_neg h]
      have e : n - i = 0 := by omega
      rw [e]
      have nochange : ∀ (k i : Nat), n ≤ i → cs_tim n k i B = B := fun k => by
        induction k with
        | zero => intro i _; rfl
        | succ k ih => intro i hi; rw [cs_tim, if_neg (by omega)]; exact ih (i + 1) (by omega)
      rw [nochange k (i + 1) (by omega)]; exact I
theorem S_turns : ∀ (k i : Nat) (B N : Nat → Int32), i + k = 5 → i ≤ n → Iv B N n m → Iv (cs_turns n m k i B) (mf_turns m (n - i) i N) n m
  | 0, i, B, N, hk, hi, I => by
    have := I.1.2.1
    have e : n - i = 0 := by omega
    rw [e]; exact I
  | k + 1, i, B, N, hk, hi, I => by
    unfold cs_turns
    by_cases h : i < n
    · obtain ⟨d, hd⟩ : ∃ d, n - i = d + 1 := ⟨n - i - 1, by omega⟩
      have e : n - (i + 1) = d := by omega
      rw [if_pos h, hd]
      unfold mf_turns
      have r := S_turns k (i + 1) _ _ (by omega) (by omega) (S_turn I h)
      rw [e] at r; exact r
    · rw [if_neg h]
      have e : n - i = 0 := by omega
      rw [e]
      have nochange : ∀ (k i : Nat), n ≤ i → cs_turns n m k i B = B := fun k => by
        induction k with
        | zero => intro i _; rfl
        | succ k ih => intro i hi; rw [cs_turns, if_neg (by omega)]; exact ih (i + 1) (by omega)
      rw [nochange k (i + 1) (by omega)]; exact I
theorem S_tick (I : Iv B N n m) : Iv (cs_tick B n m) (mf_tick N n m) n m := S_turns 5 0 _ _ (by decide) (Nat.zero_le n) (S_tims 5 0 B N (by decide) (Nat.zero_le n) I)
theorem S_ticks : ∀ (k : Nat) (B N : Nat → Int32), Iv B N n m → Iv (cs_ticks n m k B) (mf_ticks n m k N) n m
  | 0, _, _, I => I
  | k + 1, _, _, I => S_ticks k _ _ (S_tick I)
end
