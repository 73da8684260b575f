/-! one call of both, second part -/
theorem i32_nn {x : Int32} {a K : Nat} (hK : K < 2 ^ 31) (hx : ¬ x < nI a) (hx2 : ¬ x > nI K) (ha : a < 2 ^ 31) : ∃ t, a ≤ t ∧ t ≤ K ∧ x = nI t := by
  have h1 := Int32.not_lt.mp hx
  have h2 := Int32.not_lt.mp hx2
  rw [Int32.le_iff_toInt_le, nI_toInt ha] at h1
  rw [Int32.le_iff_toInt_le, nI_toInt hK] at h2
  refine ⟨x.toInt.toNat, by omega, by omega, Int32.toInt_inj.mp ?_⟩
  rw [nI_toInt (by omega)]
  omega
section
variable {ad : Nat → Nat → Nat → Nat} {o : wd_S} {n m c : Nat}
theorem dials_26 {B : Nat → Int32} {s e l le : Nat} (hm16 : m ≤ 16) (hl : l < 5) (hle : le < 5) (hs : mem B m l s) (he : mem B m le e) : (cs_dials B m s (nI e) = 2 → le ≠ l ∧ cs_in B m le e = true ∧ B (20 * le + 1) = 0) ∧ (cs_dials B m s (nI e) = 6 → le = l ∧ cs_in B m l e = true) ∧ (cs_dials B m s (nI e) = 5 ∨ cs_dials B m s (nI e) = 6 ∨ cs_dials B m s (nI e) = 2) := by
  have E : cs_dials B m s (nI e) = if nI e = nI s then (5 : Int32) else if cs_cut B le e = 0 then (if nI le = nI l then 6 else if B (20 * le + 1) = 0 then 2 else 5) else 5 := by
    unfold cs_dials
    rw [lk_nI he.1 hm16]
    show (if nI e = nI s then (5 : Int32) else if cs_cut B (hm B e) e = 0 then (if B (101 + 8 * e + 1) = B (101 + 8 * s + 1) then 6 else if B (20 * hm B e + 1) = 0 then 2 else 5) else 5) = _
    rw [hm_of he.2 hle, he.2, hs.2]
  rw [E]
  by_cases h1 : nI e = nI s
  · rw [if_pos h1]; exact ⟨fun q => absurd q (by decide), fun q => absurd q (by decide), Or.inl rfl⟩
  · rw [if_neg h1]
    by_cases h2 : cs_cut B le e = 0
    · have h2' : cs_cuts B le e = 0 := by
        unfold cs_cut at h2
        by_cases q : cs_cuts B le e = 0
        · exact q
        · rw [if_neg q] at h2; exact absurd h2 (by decide)
      rw [if_pos h2]
      by_cases h3 : nI le = nI l
      · have := nI_inj h3 (by omega) (by omega)
        subst this
        rw [if_pos h3]; exact ⟨fun q => absurd q (by decide), fun _ => ⟨rfl, in_iff.2 ⟨he, h2'⟩⟩, Or.inr (Or.inl rfl)⟩
      · rw [if_neg h3]
        by_cases h4 : B (20 * le + 1) = 0
        · rw [if_pos h4]; exact ⟨fun _ => ⟨fun q => h3 (by rw [q]), in_iff.2 ⟨he, h2'⟩, h4⟩, fun q => absurd q (by decide), Or.inr (Or.inr rfl)⟩
        · rw [if_neg h4]; exact ⟨fun q => absurd q (by decide), fun q => absurd q (by decide), Or.inl rfl⟩
    · rw [if_neg h2]; exact ⟨fun q => absurd q (by decide), fun q => absurd q (by decide), Or.inl rfl⟩
theorem sp_would (R : Rel o n m c) {x y : Int32} : SP ad MX7_wouldDial MX8_wouldDial [.int x, .int y] Tr [(eI, 1)] o := by
  have hm' := R.1.1.2.2.2.1
  have hn := R.1.1.2.1
  have A := R.1.2.2.1
  have h7 := ct_would (ad := ad) R.vs (x := x) (y := y)
  have h8 := rt_would (ad := ad) R.mv (x := x) (y := y)
  unfold cf_would at h7
  unfold rf_would at h8
  rcases hx : lk m x with _ | s
  · simp only [hx] at h7 h8; exact SP_x (by simp) h7 h8
  · obtain ⟨l, hl, hs, e0, e8, ex⟩ := sub_of R hx
    simp only [hx] at h7
    have h9 := rt_would (ad := ad) (R.j 1 (cs_dials (o.1 0) m s y).toInt64).mv (x := x) (y := y)
    unfold rf_would at h9
    simp only [hx, show (wd_j o 1 (cs_dials (o.1 0) m s y).toInt64).1 8 = o.1 8 from rfl, e8] at h9
    rcases hy : lk m y with _ | e
    · simp only [hy] at h9
      have d5 : cs_dials (o.1 0) m s y = 5 := by unfold cs_dials; rw [hy]
      rw [d5] at h7 h9
      exact SP_rd R h7 h9 trivial
    · obtain ⟨le, hle, he, f0, f8, fy⟩ := sub_of R hy
      simp only [hy, f8] at h9
      rw [rd_ld A R.1.2.1 hn hm' hl hs hle he, ← fy] at h9
      exact SP_rd R h7 h9 trivial
theorem sp_dial (R : Rel o n m c) {x y : Int32} : SP ad MX7_dial MX8_dial [.int x, .int y] Tr [(eI, 1), (eS, 2)] o := by
  have hm' := R.1.1.2.2.2.1
  have hn := R.1.1.2.1
  have A := R.1.2.2.1
  have h7 := ct_dial (ad := ad) R.vs (x := x) (y := y)
  have h8 := rt_dial (ad := ad) R.mv (x := x) (y := y)
  unfold cf_dial at h7
  unfold rf_dial at h8
  rcases hx : lk m x with _ | s
  · simp only [hx] at h7 h8; exact SP_x (by simp) h7 h8
  · obtain ⟨l, hl, hs, e0, e8, ex⟩ := sub_of R hx
    have n1 : o.1 8 (20 * l + 1) = o.1 0 (20 * l + 1) := ag_l A hl (by omega) (by omega)
    have n3 : o.1 8 (20 * l + 3) = o.1 0 (20 * l + 3) := ag_l A hl (by omega) (by omega)
    simp only [hx, e0] at h7
    simp only [hx, e8] at h8
    by_cases a1 : o.1 0 (20 * l + 1) = 1
    · rw [if_neg (fun q => q a1)] at h7
      by_cases a2 : o.1 0 (20 * l + 3) = nI s
      · rw [if_neg (fun q => q a2)] at h7
        have hc8 : o.1 8 (20 * l + 1) = 1 ∧ o.1 8 (20 * l + 3) = nI s := ⟨n1.trans a1, n3.trans a2⟩
        have h9 := fun B v => rt_dial (ad := ad) (sv_mv R B v) (x := x) (y := y)
        simp only [rf_dial, hx, csv_hi R (show 6 ≤ 8 by decide), e8] at h9
        rcases hy : lk m y with _ | e
        · have d5 : cs_dials (o.1 0) m s y = 5 := by unfold cs_dials; rw [hy]
          rw [dial_n a2 d5] at h7
          have v5 : cs_inc (mf_comes (o.1 0) l 5 (nI s) (-1) (-1)) 234 (20 * l + 1) = 5 := by unfold cs_inc; rw [upd_ne _ _ (by omega), co1]
          rw [v5] at h7
          have h10 := h9 (cs_inc (mf_comes (o.1 0) l 5 (nI s) (-1) (-1)) 234) (5 : Int32).toInt64
          simp only [hy] at h10
          rw [if_pos hc8] at h10
          exact SP_sv R h7 h10 trivial (S_tone R.1 hl a1 a2)
        · obtain ⟨le, hle, he, f0, f8, fy⟩ := sub_of R hy
          have ld := rd_ld A R.1.2.1 hn hm' hl hs hle he
          obtain ⟨d2, d6, d3⟩ := dials_26 (B := o.1 0) hm' (by omega) (by omega) hs he
          simp only [hy, f8, ld] at h9
          subst fy
          rcases d3 with d | d | d
          · rw [dial_n a2 d] at h7
            have v5 : cs_inc (mf_comes (o.1 0) l 5 (nI s) (-1) (-1)) 234 (20 * l + 1) = 5 := by unfold cs_inc; rw [upd_ne _ _ (by omega), co1]
            rw [v5] at h7
            have h10 := h9 (cs_inc (mf_comes (o.1 0) l 5 (nI s) (-1) (-1)) 234) (5 : Int32).toInt64
            rw [if_pos hc8, d, if_neg (show ¬ (5 : Int32) = 2 by decide), if_neg (show ¬ (5 : Int32) = 6 by decide), if_pos rfl] at h10
            exact SP_sv R h7 h10 trivial (S_tone R.1 hl a1 a2)
          · obtain ⟨rfl, hin⟩ := d6 d
            rw [dial_h a2 d, co1] at h7
            have h10 := h9 (mf_comes (o.1 0) le 6 (nI s) (nI e) (-1)) (6 : Int32).toInt64
            rw [if_pos hc8, d, if_neg (show ¬ (6 : Int32) = 2 by decide), if_pos rfl, if_neg (show ¬ (6 : Int32) = 5 by decide), i32_add0, upd_id _ rfl] at h10
            exact SP_sv R h7 h10 trivial (S_hold R.1 hl a1 a2 hin)
          · obtain ⟨hne, hin, hp0⟩ := d2 d
            rw [dial_c hm' a2 he.1 (by omega) he.2 hne d, co1] at h7
            have h10 := h9 (mf_comes (mf_comes (o.1 0) le 3 (nI e) (-1) (nI l)) l 2 (nI s) (-1) (nI le)) (2 : Int32).toInt64
            rw [if_pos hc8, d, if_pos rfl] at h10
            exact SP_sv R h7 h10 trivial (S_call R.1 hl a1 a2 hle hne hin hp0)
      · rw [if_pos a2] at h7
        rw [if_neg (fun q => a2 (n3.symm.trans q.2))] at h8
        exact SP_x (by simp) h7 h8
    · rw [if_pos a1] at h7
      rw [if_neg (fun q => a1 (n1.symm.trans q.1))] at h8
      exact SP_x (by simp) h7 h8
theorem sp_tick (R : Rel o n m c) {x : Int32} : SP ad MX7_tick MX8_tick [.int x] Tr [(eA, 1)] o := by
  have hn := R.1.1.2.1
  by_cases hb : x < 1 ∨ x > 200
  · exact SP_x (by simp) (ct_tick_bad R.vs hb) (rt_tick_bad R.mv hb)
  · obtain ⟨t, t1, t2, rfl⟩ := i32_nn (x := x) (a := 1) (K := 200) (by decide) (fun q => hb (Or.inl q)) (fun q => hb (Or.inr q)) (by decide)
    have h7 := ct_tick_ok (ad := ad) R.vs t1 t2
    unfold cf_tick at h7
    have I2 := S_ticks t _ _ R.1
    have h9 := rt_tick (ad := ad) (sv_mv R (cs_ticks n m t (o.1 0)) (sumF (cs_use (cs_ticks n m t (o.1 0)) n) 5 0).toInt64) (Q := fun N => ∃ B, Iv B N n m) (fun N ⟨B, I⟩ => Iv_mi I) (fun N l hl ⟨B, I⟩ => ⟨_, S_turn I hl⟩) (fun N ⟨B, I⟩ => ⟨_, S_tims 5 0 B N (by decide) (Nat.zero_le n) I⟩) (by rw [csv_hi R (by decide)]; exact ⟨_, R.1⟩) t1 t2
    unfold rf_tick at h9
    rw [csv_hi R (by decide), rd_use I2.2.2.1 hn] at h9
    exact SP_sv R h7 h9 trivial I2
theorem sp_limit (R : Rel o n m c) {x : Int32} : SP ad MX7_setLimit MX8_setLimit [.int x] Tr [(eA, 1)] o := by
  have A := R.1.2.2.1
  have h7 := ct_limit (ad := ad) R.vs (x := x)
  have h8 := rt_limit (ad := ad) R.mv (x := x)
  unfold cf_limit at h7
  unfold rf_limit at h8
  by_cases a1 : x < 10
  · rw [if_pos a1] at h7 h8; exact SP_x (by simp) h7 h8
  · rw [if_neg a1] at h7 h8
    by_cases a2 : x > 200
    · rw [if_neg (Int32.not_le.mpr a2)] at h7; rw [if_pos a2] at h8; exact SP_x (by simp) h7 h8
    · rw [if_pos (Int32.not_lt.mp a2)] at h7
      have h9 := rt_limit (ad := ad) (sv_mv R (upd (o.1 0) 230 x) (o.1 0 230).toInt64) (x := x)
      unfold rf_limit at h9
      rw [if_neg a1, if_neg a2, csv_hi R (by decide), A 230 (us_c (by decide) (by decide))] at h9
      exact SP_sv R h7 h9 trivial (S_soft R.1 (Or.inr rfl))
theorem sp_rings (R : Rel o n m c) {x : Int32} : SP ad MX7_rings MX8_rings [.int x] Tr [(eI, 1)] o := by
  have h7 := ct_rings (ad := ad) R.vs (x := x)
  have h8 := rt_rings (ad := ad) R.mv (Iv_mi R.1) (x := x)
  unfold cf_rings at h7
  unfold rf_rings at h8
  rcases hx : lk n x with _ | l
  · simp only [hx] at h7 h8; exact SP_x (by simp) h7 h8
  · have hl := (lk_some hx).2
    simp only [hx] at h7
    have h9 := rt_rings (ad := ad) (R.j 1 (cs_sound (o.1 0) m l).toInt64).mv (Iv_mi R.1) (x := x)
    unfold rf_rings at h9
    simp only [hx, show (wd_j o 1 (cs_sound (o.1 0) m l).toInt64).1 8 = o.1 8 from rfl, rd_hear R.1 hl] at h9
    exact SP_rd R h7 h9 trivial
theorem sp_told (R : Rel o n m c) {x : Int32} : SP ad MX7_told MX8_told_ [.int x] Tr [(eA, 1)] o := by
  have A := R.1.2.2.1
  by_cases h0 : x < 0
  · exact SP_x (by simp) (ct_told_bad R.vs (Or.inl h0)) (rt_told_bad R.mv (Or.inl h0))
  · by_cases h5 : x > 5
    · have h6 : x ≥ 6 := by
        have := Int32.lt_iff_toInt_lt.mp h5
        show (6 : Int32) ≤ x
        rw [Int32.le_iff_toInt_le]
        have e5 : (5 : Int32).toInt = 5 := rfl
        have e6 : (6 : Int32).toInt = 6 := rfl
        omega
      exact SP_x (by simp) (ct_told_bad R.vs (Or.inr h6)) (rt_told_bad R.mv (Or.inr h5))
    · rcases i32_t6 h0 (le_lt (k := 5) (by decide) h5) with rfl | rfl | rfl | rfl | rfl | rfl
      · have h9 := rt_told_0 (ad := ad) (R.j 1 (o.1 0 231).toInt64).mv
        rw [show (wd_j o 1 (o.1 0 231).toInt64).1 8 231 = o.1 0 231 from A 231 (us_c (by decide) (by decide))] at h9
        exact SP_rd R (ct_told_0 R.vs) h9 trivial
      · have h9 := rt_told_1 (ad := ad) (R.j 1 (o.1 0 232).toInt64).mv
        rw [show (wd_j o 1 (o.1 0 232).toInt64).1 8 232 = o.1 0 232 from A 232 (us_c (by decide) (by decide))] at h9
        exact SP_rd R (ct_told_1 R.vs) h9 trivial
      · have h9 := rt_told_2 (ad := ad) (R.j 1 (o.1 0 233).toInt64).mv
        rw [show (wd_j o 1 (o.1 0 233).toInt64).1 8 233 = o.1 0 233 from A 233 (us_c (by decide) (by decide))] at h9
        exact SP_rd R (ct_told_2 R.vs) h9 trivial
      · have h9 := rt_told_3 (ad := ad) (R.j 1 (o.1 0 234).toInt64).mv
        rw [show (wd_j o 1 (o.1 0 234).toInt64).1 8 234 = o.1 0 234 from A 234 (us_c (by decide) (by decide))] at h9
        exact SP_rd R (ct_told_3 R.vs) h9 trivial
      · have h9 := rt_told_4 (ad := ad) (R.j 1 (o.1 0 235).toInt64).mv
        rw [show (wd_j o 1 (o.1 0 235).toInt64).1 8 235 = o.1 0 235 from A 235 (us_c (by decide) (by decide))] at h9
        exact SP_rd R (ct_told_4 R.vs) h9 trivial
      · have h9 := rt_told_5 (ad := ad) (R.j 1 (o.1 0 236).toInt64).mv
        rw [show (wd_j o 1 (o.1 0 236).toInt64).1 8 236 = o.1 0 236 from A 236 (us_c (by decide) (by decide))] at h9
        exact SP_rd R (ct_told_5 R.vs) h9 trivial
theorem sp_clen (R : Rel o n m c) {x : Int32} : SP ad MX7_codeLength MX8_codeLength [.int x] Tr [(eA, 1)] o := by
  have h7 := ct_clen (ad := ad) R.vs (x := x)
  unfold cf_clen at h7
  by_cases a : cs_isCode x = 0
  · have h8 := rt_clen (ad := ad) R.mv (x := x)
    unfold rf_clen at h8
    rw [if_pos a] at h7 h8; exact SP_x (by simp) h7 h8
  · have h9 := rt_clen (ad := ad) (R.j 1 (tc_len x).toInt64).mv (x := x)
    unfold rf_clen at h9
    rw [if_neg a] at h7 h9; exact SP_rd R h7 h9 trivial
theorem sp_cring (R : Rel o n m c) {x k : Int32} : SP ad MX7_codeRing MX8_codeRing [.int x, .int k] Tr [(eA, 1)] o := by
  by_cases a : cs_isCode x = 0
  · exact SP_x (by simp) (ct_cring_bad R.vs a) (rt_cring_bad R.mv a)
  · exact SP_rd R (ct_cring R.vs a) (rt_cring (R.j 1 (tc_cr x k).toInt64).mv a) trivial
theorem sp_cost (R : Rel o n m c) {x : Int32} : SP ad MX7_codeCost MX8_codeCost [.int x] Tr [(eI, 1)] o := by
  have h7 := ct_cost (ad := ad) R.vs (x := x)
  have h8 := rt_cost (ad := ad) R.mv (x := x)
  unfold cf_cost at h7
  unfold rf_cost at h8
  rcases hx : lk n x with _ | l
  · simp only [hx] at h7 h8; exact SP_x (by simp) h7 h8
  · simp only [hx] at h7
    have h9 := rt_cost (ad := ad) (R.j 1 (sumF (cs_cost (o.1 0) m l) 16 0).toInt64).mv (x := x)
    unfold rf_cost at h9
    simp only [hx, show (wd_j o 1 (sumF (cs_cost (o.1 0) m l) 16 0).toInt64).1 8 = o.1 8 from rfl, rd_cost R.1.2.2.1 R.1.1.2.2.2.1] at h9
    exact SP_rd R h7 h9 trivial
theorem sp_best (R : Rel o n m c) {x : Int32} : SP ad MX7_bestCodes MX8_bestCodes [.int x] Tr [(eI, 1)] o := by
  have h7 := ct_best (ad := ad) R.vs (x := x) (rank_lt R.1)
  have h8 := rt_best (ad := ad) R.mv (rank_ltN R.1) (x := x)
  unfold cf_best at h7
  unfold rf_best at h8
  rcases hx : lk n x with _ | l
  · simp only [hx] at h7 h8; exact SP_x (by simp) h7 h8
  · simp only [hx] at h7
    have h9 := rt_best (ad := ad) (R.j 1 (sumF (cs_least (o.1 0) m l) 16 0).toInt64).mv (rank_ltN R.1) (x := x)
    unfold rf_best at h9
    simp only [hx, show (wd_j o 1 (sumF (cs_least (o.1 0) m l) 16 0).toInt64).1 8 = o.1 8 from rfl, rd_least R.1.2.2.1 R.1.1.2.2.2.1] at h9
    exact SP_rd R h7 h9 trivial
theorem sp_assign (R : Rel o n m c) {x : Int32} : SP ad MX7_assignCodes MX8_assignCodes [.int x] Tr [(eI, 1), (eS, 2)] o := by
  have h7 := ct_assign (ad := ad) R.vs (x := x) (rank_lt R.1)
  have h8 := rt_assign (ad := ad) R.mv (rank_ltN R.1) (x := x)
  unfold cf_assign at h7
  unfold rf_assign at h8
  rcases hx : lk n x with _ | l
  · simp only [hx] at h7 h8; exact SP_x (by simp) h7 h8
  · simp only [hx] at h7 h8
    have hl := (lk_some hx).2
    have rg := rd_rung R.1.2.2.1 hl
    by_cases a : cs_rung (o.1 0) l = 0
    · rw [if_pos a] at h7
      obtain ⟨I2, ev⟩ := S_assign (l := l) R.1
      have h9 := rt_assign (ad := ad) (sv_mv R (cs_give m l 16 0 (o.1 0)) (cs_given m l 16 0 (o.1 0)).toInt64) (by rw [csv_hi R (by decide)]; exact rank_ltN R.1) (x := x)
      simp only [rf_assign, hx, csv_hi R (show 6 ≤ 8 by decide)] at h9
      rw [if_pos (rg.trans a), ← ev] at h9
      exact SP_sv R h7 h9 trivial I2
    · rw [if_neg a] at h7
      rw [if_neg (fun q => a (rg.symm.trans q))] at h8
      exact SP_x (by simp) h7 h8
theorem flt_iff {B : Nat → Int32} {l : Nat} : cs_flt B l = 0 ↔ B (20 * l + 7) = -1 := by
  unfold cs_flt
  by_cases h : B (20 * l + 7) = -1
  · simp [h]
  · simp [h]
theorem sp_fault (R : Rel o n m c) {x k b : Int32} (hb : b = 0 ∨ b = 1) : SP ad MX7_fault MX8_fault [.int x, .int k, .int b] Tr [(eI, 1), (eS, 2)] o := by
  have hn := R.1.1.2.1
  have hm' := R.1.1.2.2.2.1
  have h7 := ct_fault (ad := ad) R.vs (x := x) (k := k) hb
  have h8 := rt_fault (ad := ad) R.mv (Iv_mi R.1) (x := x) (k := k) hb
  unfold cf_fault at h7
  unfold rf_fault at h8
  rcases hx : lk n x with _ | l
  · simp only [hx] at h7 h8; exact SP_x (by simp) h7 h8
  · simp only [hx] at h7 h8
    have hl := (lk_some hx).2
    have n7 : o.1 8 (20 * l + 7) = o.1 0 (20 * l + 7) := ag_l R.1.2.2.1 hl (by omega) (by omega)
    by_cases a0 : cs_span k = 0
    · rw [if_pos a0] at h7 h8; exact SP_x (by simp) h7 h8
    · rw [if_neg a0] at h7 h8
      by_cases a : cs_flt (o.1 0) l = 0
      · rw [if_pos a] at h7
        have I2 := S_break (k := k) R.1 hl hb
        have h9 := rt_fault (ad := ad) (sv_mv R (cs_break (o.1 0) n m l k b) (sumF (cs_cut1 (cs_break (o.1 0) n m l k b) m l) 16 0).toInt64) (by rw [csv_hi R (by decide)]; exact Iv_mi R.1) (x := x) (k := k) hb
        simp only [rf_fault, hx, csv_hi R (show 6 ≤ 8 by decide)] at h9
        rw [if_neg a0, if_pos (n7.trans (flt_iff.1 a)), rd_fn I2.2.2.1 I2.2.1 hn hm' hl] at h9
        exact SP_sv R h7 h9 trivial (S_fl I2 hl)
      · rw [if_neg a] at h7
        rw [if_neg (fun q => a (flt_iff.2 (n7.symm.trans q)))] at h8
        exact SP_x (by simp) h7 h8
theorem sp_mend (R : Rel o n m c) {x : Int32} : SP ad MX7_mend MX8_mend [.int x] Tr [(eI, 1), (eS, 2)] o := by
  have h7 := ct_mend (ad := ad) R.vs (x := x)
  have h8 := rt_mend (ad := ad) R.mv (Iv_mi R.1) (x := x)
  unfold cf_mend at h7
  unfold rf_mend at h8
  rcases hx : lk n x with _ | l
  · simp only [hx] at h7 h8; exact SP_x (by simp) h7 h8
  · simp only [hx] at h7 h8
    have hl := (lk_some hx).2
    have n7 : o.1 8 (20 * l + 7) = o.1 0 (20 * l + 7) := ag_l R.1.2.2.1 hl (by omega) (by omega)
    by_cases a : cs_flt (o.1 0) l = 0
    · rw [if_pos a] at h7
      rw [if_pos (n7.trans (flt_iff.1 a))] at h8
      exact SP_x (by simp) h7 h8
    · rw [if_neg a] at h7
      have h9 := rt_mend (ad := ad) (sv_mv R (cs_mend (o.1 0) n m l) (o.1 0 (20 * l + 7)).toInt64) (by rw [csv_hi R (by decide)]; exact Iv_mi R.1) (x := x)
      simp only [rf_mend, hx, csv_hi R (show 6 ≤ 8 by decide)] at h9
      rw [if_neg (fun q => a (flt_iff.2 (n7.symm.trans q))), n7] at h9
      exact SP_sv R h7 h9 trivial (S_mend R.1 hl)
theorem sp_isCut (R : Rel o n m c) {x : Int32} : SP ad MX7_isCut MX8_isCut [.int x] (fun v => v = 0 ∨ v = 1) [(eI, 1)] o := by
  have h7 := ct_isCut (ad := ad) R.vs (x := x)
  have h8 := rt_isCut (ad := ad) R.mv (x := x)
  unfold cf_isCut at h7
  unfold rf_isCut at h8
  rcases hx : lk m x with _ | s
  · simp only [hx] at h7 h8; exact SP_x (by simp) h7 h8
  · obtain ⟨l, hl, hs, e0, e8, ex⟩ := sub_of R hx
    simp only [hx, e0] at h7
    have h9 := rt_isCut (ad := ad) (R.j 1 (cs_cut (o.1 0) l s).toInt64).mv (x := x)
    unfold rf_isCut at h9
    simp only [hx, show (wd_j o 1 (cs_cut (o.1 0) l s).toInt64).1 8 = o.1 8 from rfl, e8, rd_cut R.1.2.2.1 R.1.2.1 R.1.1.2.1 hl hs.1] at h9
    exact SP_rd R h7 h9 (cut_01 _ _ _)
theorem span_nat {k : Int32} (h : ¬ cs_span k = 0) : ∃ j, 1 ≤ j ∧ j ≤ 12 ∧ k = nI j := by
  unfold cs_span at h
  by_cases a : k < 1
  · rw [if_pos a] at h; exact absurd rfl h
  · rw [if_neg a] at h
    by_cases b : k > 12
    · rw [if_pos b] at h; exact absurd rfl h
    · exact i32_nn (a := 1) (K := 12) (by decide) a b (by decide)
theorem sp_risk (R : Rel o n m c) {x k r : Int32} : SP ad MX7_setRisk MX8_setRisk [.int x, .int k, .int r] Tr [(eI, 1), (eA, 2)] o := by
  have hn := R.1.1.2.1
  by_cases a0 : cs_span k = 0
  · exact SP_x (by simp) (ct_risk_bad R.vs a0) (rt_risk_bad R.mv a0)
  · obtain ⟨j, j1, j2, rfl⟩ := span_nat a0
    have h7 := ct_risk (ad := ad) R.vs (x := x) (r := r) j1 j2
    have h8 := rt_risk (ad := ad) R.mv (x := x) (r := r) j1 j2
    unfold cf_risk at h7
    unfold rf_risk at h8
    rcases hx : lk n x with _ | l
    · simp only [hx] at h7 h8; exact SP_x (by simp) h7 h8
    · simp only [hx] at h7 h8
      have hl := (lk_some hx).2
      by_cases a1 : r < 1
      · rw [if_pos a1] at h7 h8; exact SP_x (by simp) h7 h8
      · rw [if_neg a1] at h7 h8
        by_cases a2 : r > 9
        · rw [if_neg (Int32.not_le.mpr a2)] at h7; rw [if_pos a2] at h8; exact SP_x (by simp) h7 h8
        · rw [if_pos (Int32.not_lt.mp a2)] at h7
          have h9 := rt_risk (ad := ad) (sv_mv R (upd (o.1 0) (20 * l + 8 + j) r) (o.1 0 (20 * l + 8 + j)).toInt64) (x := x) (r := r) j1 j2
          simp only [rf_risk, hx, csv_hi R (show 6 ≤ 8 by decide)] at h9
          have nj : o.1 8 (20 * l + 8 + j) = o.1 0 (20 * l + 8 + j) := by
            rw [Nat.add_assoc]; exact ag_l R.1.2.2.1 hl (by omega) (by omega)
          rw [if_neg a1, if_neg a2, nj] at h9
          exact SP_sv R h7 h9 trivial (S_cell R.1 (Or.inl ⟨l, by omega, Or.inr ⟨8 + j, by omega, by omega, by omega⟩⟩) (Or.inl (by omega)))
theorem sp_test (R : Rel o n m c) {x k : Int32} : SP ad MX7_test MX8_test [.int x, .int k] (fun v => v = 0 ∨ v = 1) [(eI, 1), (eA, 2), (eS, 3)] o := by
  have h7 := ct_test (ad := ad) R.vs (x := x) (k := k)
  have h8 := rt_test (ad := ad) R.mv (x := x) (k := k)
  unfold cf_test at h7
  unfold rf_test at h8
  rcases hx : lk n x with _ | l
  · simp only [hx] at h7 h8; exact SP_x (by simp) h7 h8
  · simp only [hx] at h7 h8
    have hl := (lk_some hx).2
    have n7 : o.1 8 (20 * l + 7) = o.1 0 (20 * l + 7) := ag_l R.1.2.2.1 hl (by omega) (by omega)
    by_cases a1 : k < 1
    · rw [if_pos a1] at h7 h8; exact SP_x (by simp) h7 h8
    · rw [if_neg a1] at h7 h8
      by_cases a2 : k > 11
      · have a2' : ¬ k < 12 := fun q => by
          rw [Int32.lt_iff_toInt_lt] at q
          have h2 := Int32.lt_iff_toInt_lt.mp a2
          have e1 : (11 : Int32).toInt = 11 := rfl
          have e2 : (12 : Int32).toInt = 12 := rfl
          omega
        rw [if_neg a2'] at h7; rw [if_pos a2] at h8; exact SP_x (by simp) h7 h8
      · rw [if_pos (show k < 12 from le_lt (k := 11) (by decide) a2)] at h7
        rw [if_neg a2] at h8
        by_cases a : cs_flt (o.1 0) l = 0
        · rw [if_pos a] at h7
          rw [if_pos (n7.trans (flt_iff.1 a))] at h8
          exact SP_x (by simp) h7 h8
        · rw [if_neg a] at h7
          have h9 := rt_test (ad := ad) (R.j 1 (if o.1 0 (20 * l + 7) > k then (0 : Int32) else 1).toInt64).mv (x := x) (k := k)
          unfold rf_test at h9
          simp only [hx] at h9
          rw [if_neg a1, if_neg a2, show (wd_j o 1 (if o.1 0 (20 * l + 7) > k then (0 : Int32) else 1).toInt64).1 8 = o.1 8 from rfl, if_neg (fun q => a (flt_iff.2 (n7.symm.trans q))), n7] at h9
          exact SP_rd R h7 h9 (by split <;> simp)
theorem Rel.t2 (R : Rel o n m c) (T : TT) : Rel (wt2 o T) n m c := R.same (fun r hr => wt2_ne _ _ (by omega) (by omega)) (by rw [wt2_ne _ _ (by decide) (by decide)]) rfl
theorem Rel.t3 (R : Rel o n m c) (T : TT) : Rel (wt3 o T) n m c := R.same (fun r hr => wt3_ne _ _ (by omega) (by omega)) (by rw [wt3_ne _ _ (by decide) (by decide)]) rfl
theorem rk_ag (R : Rel o n m c) {l : Nat} (hl : l < n) : ∀ k, 1 ≤ k → k ≤ 12 → cs_rk (o.1 0) l k = cs_rk (o.1 8) l k := fun k h1 h2 => by
  unfold cs_rk
  rw [Nat.add_assoc]
  exact (ag_l R.1.2.2.1 hl (by omega) (by omega)).symm
theorem wt2j_8 (o : wd_S) (T : TT) (v : Int64) : (wd_j (wt2 o T) 1 v).1 8 = o.1 8 := wt2_ne o T (r := 8) (by decide) (by decide)
theorem SP_t {M7 M8 : mm_M} {as : List Value} {hs : List (String × Int32)} {v : Int32} {T U : TT} (R : Rel o n m c) (h7 : CT ad M7 (.ref (ad 7 0 0) :: as) o (OT (oI v (wt2 o T)))) (h8 : CT ad M8 (.ref (ad 14 0 0) :: as) (wd_j (wt2 o T) 1 v.toInt64) (OT (oI v (wt3 (wd_w (wd_j (wt2 o T) 1 v.toInt64) 12 1 0) U)))) : SP ad M7 M8 as Tr hs o := by
  refine Or.inl ⟨v, _, _, h7, h8, trivial, ?_, ?_, n, m, c, (((R.t2 T).j 1 _).w 0).t3 U⟩
  · rw [wt3_ne _ _ (by decide) (by decide), wd_get, if_pos ⟨rfl, rfl⟩]
  · show (if (1 : Nat) = 1 then v.toInt64 else o.2.2 1) = v.toInt64; rw [if_pos rfl]
theorem rows_ok {y z : Int32} (h : ¬ (y < 1 ∨ y > z ∨ z > 12)) : ∃ a b, 1 ≤ a ∧ a ≤ b ∧ b ≤ 12 ∧ y = nI a ∧ z = nI b := by
  have h1 : ¬ y < 1 := fun q => h (Or.inl q)
  have h2 : ¬ y > z := fun q => h (Or.inr (Or.inl q))
  have h3 : ¬ z > 12 := fun q => h (Or.inr (Or.inr q))
  have h1' := Int32.not_lt.mp h1
  have h2' := Int32.not_lt.mp h2
  have h3' := Int32.not_lt.mp h3
  have h4 : ¬ z < 1 := Int32.not_lt.mpr (Int32.le_trans h1' h2')
  have h5 : ¬ y > 12 := Int32.not_lt.mpr (Int32.le_trans h2' h3')
  obtain ⟨a, a1, a2, rfl⟩ := i32_nn (x := y) (a := 1) (K := 12) (by decide) h1 h5 (by decide)
  obtain ⟨b, b1, b2, rfl⟩ := i32_nn (x := z) (a := 1) (K := 12) (by decide) h4 h3 (by decide)
  refine ⟨a, b, a1, ?_, b2, rfl, rfl⟩
  rw [Int32.le_iff_toInt_le, nI_toInt (by omega), nI_toInt (by omega)] at h2'
  omega
theorem sp_tcost (R : Rel o n m c) {x y z : Int32} : SP ad MX7_testCost MX8_testCost [.int x, .int y, .int z] Tr [(eI, 1), (eA, 2)] o := by
  rcases hx : lk n x with _ | l
  · exact SP_x (by simp) (ct_tcost_none R.vs hx) (rt_tcost_none R.mv hx)
  · obtain ⟨rfl, hl⟩ := lk_some hx
    by_cases hb : y < 1 ∨ y > z ∨ z > 12
    · exact SP_x (by simp) (ct_tcost_bad R.vs hx hb) (rt_tcost_bad R.mv hx hb)
    · obtain ⟨a, b, a1, a2, a3, rfl, rfl⟩ := rows_ok hb
      have h7 := ct_tcost_ok (ad := ad) R.vs hx a1 a2 a3
      have h9 := rt_tcost_ok (ad := ad) (((R.t2 (cs_plan (cs_rk (o.1 0) l) a b (o.1 6, o.1 7))).j 1 ((cs_plan (cs_rk (o.1 0) l) a b (o.1 6, o.1 7)).1 (13 * a + b)).toInt64)).mv hx a1 a2 a3
      rw [wt2j_8, (rd_plan (rk_ag R hl) (T := (o.1 6, o.1 7)) a1 a2 a3).1] at h9
      exact SP_t R h7 h9
theorem sp_tbest (R : Rel o n m c) {x y z : Int32} : SP ad MX7_bestTest MX8_bestTest [.int x, .int y, .int z] Tr [(eI, 1), (eA, 2)] o := by
  rcases hx : lk n x with _ | l
  · exact SP_x (by simp) (ct_tbtest_none R.vs hx) (rt_tbtest_none R.mv hx)
  · obtain ⟨rfl, hl⟩ := lk_some hx
    by_cases hb : y < 1 ∨ y > z ∨ z > 12
    · exact SP_x (by simp) (ct_tbtest_bad R.vs hx hb) (rt_tbtest_bad R.mv hx hb)
    · obtain ⟨a, b, a1, a2, a3, rfl, rfl⟩ := rows_ok hb
      have h7 := ct_tbtest_ok (ad := ad) R.vs hx a1 a2 a3
      have h9 := rt_tbtest_ok (ad := ad) (((R.t2 (cs_plan (cs_rk (o.1 0) l) a b (o.1 6, o.1 7))).j 1 ((cs_plan (cs_rk (o.1 0) l) a b (o.1 6, o.1 7)).2 (13 * a + b)).toInt64)).mv hx a1 a2 a3
      rw [wt2j_8, (rd_plan (rk_ag R hl) (T := (o.1 6, o.1 7)) a1 a2 a3).2] at h9
      exact SP_t R h7 h9
theorem sp_need (R : Rel o n m c) {x : Int32} : SP ad MX7_testsNeeded MX8_testsNeeded [.int x] Tr [(eI, 1), (eS, 2)] o := by
  have h7 := ct_need (ad := ad) R.vs (x := x)
  have h8 := rt_need (ad := ad) R.mv (x := x)
  unfold cf_need at h7
  unfold rf_need at h8
  rcases hx : lk n x with _ | l
  · simp only [hx] at h7 h8; exact SP_x (by simp) h7 h8
  · simp only [hx] at h7 h8
    have hl := (lk_some hx).2
    have n7 : o.1 8 (20 * l + 7) = o.1 0 (20 * l + 7) := ag_l R.1.2.2.1 hl (by omega) (by omega)
    by_cases a : cs_flt (o.1 0) l = 0
    · rw [if_pos a] at h7
      rw [if_pos (n7.trans (flt_iff.1 a))] at h8
      exact SP_x (by simp) h7 h8
    · rw [if_neg a] at h7
      generalize hT : cs_plan (cs_rk (o.1 0) l) 1 12 (o.1 6, o.1 7) = T at h7
      generalize hv : nI (cs_find T.2 (o.1 0 (20 * l + 7)) 12 0 1 12) = v at h7
      have h9 := rt_need (ad := ad) (((R.t2 T).j 1 v.toInt64)).mv (x := x)
      unfold rf_need at h9
      simp only [hx] at h9
      rw [wt2j_8, if_neg (fun q => a (flt_iff.2 (n7.symm.trans q))), n7, find_congr (E := T.2) (fun a b h1 h2 h3 => by
        rw [← hT, (plan_ok (R := cs_rk (o.1 8) l) _ (A := 1) (B := 12) (by decide) (by decide) h1 h2 h3).2, (plan_ok (R := cs_rk (o.1 0) l) _ (A := 1) (B := 12) (by decide) (by decide) h1 h2 h3).2]
        exact (dpD_congr (rk_ag R hl) h1 (by omega)).symm) 12 0 1 12 (by decide) (by decide) (by decide), hv] at h9
      exact SP_t R h7 h9
theorem sp_undo (R : Rel o n m c) : SP ad MX7_undo MX8_undo [] Tr [(eS, 1)] o := by
  rcases c with _ | c
  · exact SP_x (by simp) (ct_undo_x R.2.1) (ct_X8_undo_x R.2.2.1)
  · have hc : c < 4 := by have := R.2.2.2.1; omega
    obtain ⟨n', m', I'⟩ := R.2.2.2.2.2.2.1 c (by omega)
    obtain ⟨n2, m2, R2⟩ := Rel_undo R
    have h12 : (wd_j (cs_restore o c) 1 (nI c).toInt64).1 12 0 = nI (c + 1) := by
      show (cs_restore o c).1 12 0 = nI (c + 1)
      unfold cs_restore
      rw [row_ne _ _ (by decide), wd_w_row, row_ne _ _ (by decide)]
      exact R.2.2.1
    refine Or.inl ⟨nI c, _, _, ct_undo_ok I'.1 R.2.1 hc I'.2.1, ct_X8_undo_ok h12 hc, trivial, ?_, ?_, n2, m2, c, R2⟩
    · simp [wd_w]
    · show (if (1 : Nat) = 1 then (nI c).toInt64 else o.2.2 1) = (nI c).toInt64; rw [if_pos rfl]
end
