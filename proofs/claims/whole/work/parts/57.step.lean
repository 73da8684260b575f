/-! one call of both: SP -/
def SP (ad : Nat → Nat → Nat → Nat) (M7 M8 : mm_M) (as : List Value) (P : Int32 → Prop) (hs : List (String × Int32)) (o : wd_S) : Prop :=
  (∃ (v : Int32) (o1 o2 : wd_S), CT ad M7 (.ref (ad 7 0 0) :: as) o (OT (oI v o1)) ∧ CT ad M8 (.ref (ad 14 0 0) :: as) (wd_j o1 1 v.toInt64) (OT (oI v o2)) ∧ P v ∧ o2.1 12 1 = 0 ∧ o2.2.2 1 = v.toInt64 ∧ ∃ n m c, Rel o2 n m c) ∨
  (∃ (E : String) (k : Int32), (E, k) ∈ hs ∧ CT ad M7 (.ref (ad 7 0 0) :: as) o (OT (oX E o)) ∧ CT ad M8 (.ref (ad 14 0 0) :: as) o (OT (mR k o)))
abbrev Tr : Int32 → Prop := fun _ => True
section
variable {ad : Nat → Nat → Nat → Nat} {o : wd_S} {n m c : Nat} {M7 M8 : mm_M} {as : List Value} {P : Int32 → Prop} {hs : List (String × Int32)}
theorem SP_x {E : String} {k : Int32} (h : (E, k) ∈ hs) (h7 : CT ad M7 (.ref (ad 7 0 0) :: as) o (OT (oX E o))) (h8 : CT ad M8 (.ref (ad 14 0 0) :: as) o (OT (mR k o))) : SP ad M7 M8 as P hs o := Or.inr ⟨E, k, h, h7, h8⟩
theorem mS_2 (o : wd_S) (c : Nat) : (mS o c).2.2 = o.2.2 := by
  unfold mS ms_sv
  split <;> rfl
theorem SP_sv {v : Int32} {B N : Nat → Int32} {n2 m2 : Nat} (R : Rel o n m c) (h7 : CT ad M7 (.ref (ad 7 0 0) :: as) o (OT (oI v (wd_row (cs_sv o c) 0 B)))) (h8 : CT ad M8 (.ref (ad 14 0 0) :: as) (wd_j (wd_row (cs_sv o c) 0 B) 1 v.toInt64) (OT (oI v (wd_row (mS (wd_j (wd_row (cs_sv o c) 0 B) 1 v.toInt64) c) 8 N)))) (hP : P v) (I : Iv B N n2 m2) : SP ad M7 M8 as P hs o := by
  obtain ⟨c2, R2⟩ := Rel_save (v := v.toInt64) R I
  refine Or.inl ⟨v, _, _, h7, h8, hP, RS_9 R, ?_, n2, m2, c2, R2⟩
  show (mS (wd_j (wd_row (cs_sv o c) 0 B) 1 v.toInt64) c).2.2 1 = v.toInt64
  rw [mS_2]; simp [wd_j]
theorem SP_rd {v : Int32} (R : Rel o n m c) (h7 : CT ad M7 (.ref (ad 7 0 0) :: as) o (OT (oI v o))) (h8 : CT ad M8 (.ref (ad 14 0 0) :: as) (wd_j o 1 v.toInt64) (OT (oI v (wd_w (wd_j o 1 v.toInt64) 12 1 0)))) (hP : P v) : SP ad M7 M8 as P hs o :=
  Or.inl ⟨v, _, _, h7, h8, hP, by rw [wd_get, if_pos ⟨rfl, rfl⟩], by show (if (1 : Nat) = 1 then v.toInt64 else o.2.2 1) = v.toInt64; rw [if_pos rfl], n, m, c, (R.j 1 _).w 0⟩
theorem code_of {q : Int32} (h : ¬ cs_isCode q = 0) : 1 ≤ q ∧ q ≤ 14 := by
  unfold cs_isCode at h
  by_cases a : q < 1
  · rw [if_pos a] at h; exact absurd rfl h
  · rw [if_neg a] at h
    by_cases b : q > 14
    · rw [if_pos b] at h; exact absurd rfl h
    · exact ⟨Int32.not_lt.mp a, Int32.not_lt.mp b⟩
theorem sp_addLoop (R : Rel o n m c) : SP ad MX7_addLoop MX8_addLoop [] Tr [(eS, 1)] o := by
  have hn := R.1.1.2.1
  have h7 := ct_addLoop (ad := ad) R.vs
  unfold cf_addLoop at h7
  by_cases h : n < 5
  · rw [if_pos (show nI n < 5 from nI_lt (b := 5) h (by decide))] at h7
    have h9 := rt_addLoop (ad := ad) (sv_mv R (cs_open (o.1 0) n) (nI n).toInt64)
    unfold rf_addLoop at h9
    rw [csv_hi R (by decide), if_neg (fun e => by have := nI_inj (b := 5) e (by omega) (by decide); omega)] at h9
    exact SP_sv R h7 h9 trivial (S_open R.1 h)
  · have h5 : n = 5 := by omega
    rw [if_neg (show ¬ nI n < 5 from fun e => absurd ((nI_ltI (b := 5) (by omega) (by decide)).1 e) h)] at h7
    have h8 := rt_addLoop (ad := ad) R.mv
    unfold rf_addLoop at h8
    rw [if_pos (by rw [h5]; rfl)] at h8
    exact SP_x (by simp) h7 h8
theorem sp_addSub (R : Rel o n m c) {x p q : Int32} : SP ad MX7_addSubscriber MX8_addSubscriber [.int x, .int p, .int q] Tr [(eI, 1), (eA, 2), (eS, 3)] o := by
  have hm := R.1.1.2.2.2.1
  have h7 := ct_addSub (ad := ad) R.vs (x := x) (p := p) (q := q)
  have h8 := rt_addSub (ad := ad) R.mv (x := x) (p := p) (q := q)
  unfold cf_addSub at h7
  unfold rf_addSub at h8
  rcases hx : lk n x with _ | l
  · simp only [hx] at h7 h8; exact SP_x (by simp) h7 h8
  · simp only [hx] at h7 h8
    have hl := (lk_some hx).2
    by_cases a1 : cs_span p = 0
    · rw [if_pos a1] at h7 h8; exact SP_x (by simp) h7 h8
    · rw [if_neg a1] at h7 h8
      by_cases a2 : cs_isCode q = 0
      · rw [if_pos a2] at h7 h8; exact SP_x (by simp) h7 h8
      · rw [if_neg a2] at h7 h8
        by_cases a3 : m = 16
        · rw [if_pos (by rw [a3]; decide)] at h7
          rw [if_pos (by rw [a3]; rfl)] at h8
          exact SP_x (by simp) h7 h8
        · have b3 : ¬ nI m ≥ 16 := nI_ge (b := 16) (by omega) (by decide)
          have c3 : ¬ nI m = 16 := fun e => a3 (nI_inj (b := 16) e (by omega) (by decide))
          rw [if_neg b3] at h7
          rw [if_neg c3] at h8
          have tk := rd_tk (c := q) (b := -1) R.1.2.2.1 hm hl
          by_cases a4 : cs_hasC (o.1 0) m l q (-1) = 0
          · rw [if_pos a4] at h7
            have h9 := rt_addSub (ad := ad) (sv_mv R (cs_enroll (o.1 0) m l p q) (nI m).toInt64) (x := x) (p := p) (q := q)
            simp only [rf_addSub, hx, csv_hi R (show 6 ≤ 8 by decide)] at h9
            rw [if_neg a1, if_neg a2, if_neg c3, if_pos (tk.2 a4)] at h9
            exact SP_sv R h7 h9 trivial (S_enroll R.1 (by omega) hl (code_of a2).1 (code_of a2).2 a4)
          · rw [if_neg a4] at h7
            rw [if_neg (fun z => a4 (tk.1 z))] at h8
            exact SP_x (by simp) h7 h8
/-- a subscriber and its loop -/
theorem sub_of (R : Rel o n m c) {x : Int32} {s : Nat} (hx : lk m x = some s) : ∃ l, l < n ∧ mem (o.1 0) m l s ∧ hm (o.1 0) s = l ∧ hm (o.1 8) s = l ∧ x = nI s := by
  obtain ⟨r1, r2⟩ := lk_some hx
  obtain ⟨l, hl, hh⟩ := R.1.1.2.2.2.2.1 s r2
  have hn := R.1.1.2.1
  have e := hm_of hh (show l < 5 by omega)
  exact ⟨l, hl, ⟨r2, hh⟩, e, by rw [rd_hm R.1.2.2.1 r2, e], r1⟩
theorem sp_set (R : Rel o n m c) {x w v : Int32} : SP ad MX7_set MX8_set [.int x, .int w, .int v] Tr [(eI, 1), (eA, 2), (eS, 3)] o := by
  have hm := R.1.1.2.2.2.1
  have A := R.1.2.2.1
  have h7 := ct_set (ad := ad) R.vs (x := x) (w := w) (v := v)
  unfold cf_set at h7
  rcases hx : lk m x with _ | s
  · simp only [hx] at h7
    by_cases w0 : w = 0
    · subst w0
      have h8 := rt_set0 (ad := ad) R.mv (x := x) (v := v)
      simp only [rf_set0, hx] at h8
      exact SP_x (by simp) h7 h8
    · by_cases w1 : w = 1
      · subst w1
        have h8 := rt_set1 (ad := ad) R.mv (x := x) (v := v)
        simp only [rf_set1, hx] at h8
        exact SP_x (by simp) h7 h8
      · by_cases w2 : w = 2
        · subst w2
          have h8 := rt_set2 (ad := ad) R.mv (x := x) (v := v)
          simp only [rf_set2, hx] at h8
          exact SP_x (by simp) h7 h8
        · have h8 := rt_setx (ad := ad) R.mv (x := x) (v := v) w0 w1 w2
          simp only [rf_setx, hx] at h8
          exact SP_x (by simp) h7 h8
  · obtain ⟨l, hl, hs, e0, e8, ex⟩ := sub_of R hx
    have hs16 : s < 16 := by have := hs.1; omega
    have z := R.1.2.1.2 s hs16
    simp only [hx, e0] at h7
    by_cases w0 : w = 0
    · subst w0
      have h8 := rt_set0 (ad := ad) R.mv (x := x) (v := v)
      simp only [rf_set0, hx, e8] at h8
      have sb : cs_setb 0 v = cs_isCode v := by unfold cs_setb; rw [if_pos rfl]
      rw [sb] at h7
      by_cases a1 : cs_isCode v = 0
      · rw [if_pos a1] at h7 h8; exact SP_x (by simp) h7 h8
      · rw [if_neg a1] at h7 h8
        have tk := rd_tk (c := v) (b := nI s) A hm hl
        have rg := rd_rung A hl
        by_cases a2 : cs_rung (o.1 0) l = 0
        · by_cases a3 : cs_hasC (o.1 0) m l v (nI s) = 0
          · have my : cs_may (o.1 0) m l s v = 1 := by unfold cs_may; rw [if_pos a2, if_pos a3]
            rw [if_neg (fun q => by rw [my] at q; exact absurd q.2 (by decide))] at h7
            have sv : cs_sval (o.1 0) l s 0 = o.1 0 (101 + 8 * s + 3) := by unfold cs_sval; rw [if_pos rfl]
            have st : cs_set (o.1 0) s 0 v = upd (o.1 0) (101 + 8 * s + 3) v := by unfold cs_set; rw [if_pos rfl]
            rw [sv, st] at h7
            have h9 := rt_set0 (ad := ad) (sv_mv R (upd (o.1 0) (101 + 8 * s + 3) v) (o.1 0 (101 + 8 * s + 3)).toInt64) (x := x) (v := v)
            simp only [rf_set0, hx, csv_hi R (show 6 ≤ 8 by decide), e8] at h9
            rw [if_neg a1, if_pos (tk.2 a3), if_pos (rg.trans a2), ag_s A hs.1 (by omega) (by omega) (by omega)] at h9
            exact SP_sv R h7 h9 trivial (S_set0 R.1 hs (code_of a1).1 (code_of a1).2 a3)
          · have my : cs_may (o.1 0) m l s v = 0 := by unfold cs_may; rw [if_pos a2, if_neg a3]
            rw [if_pos ⟨rfl, my⟩] at h7
            rw [if_neg (fun q => a3 (tk.1 q))] at h8
            exact SP_x (by simp) h7 h8
        · have my : cs_may (o.1 0) m l s v = 0 := by unfold cs_may; rw [if_neg a2]
          rw [if_pos ⟨rfl, my⟩] at h7
          rw [if_neg (show ¬ mf_rung (o.1 8) l = 0 from fun q => a2 (rg.symm.trans q))] at h8
          have h8' : CT ad MX8_set [.ref (ad 14 0 0), .int x, .int 0, .int v] o (OT (mR 3 o)) := by
            split at h8 <;> exact h8
          exact SP_x (by simp) h7 h8'
    · have w0' : ¬ (w = 0 ∧ cs_may (o.1 0) m l s v = 0) := fun q => w0 q.1
      rw [if_neg w0'] at h7
      by_cases w1 : w = 1
      · subst w1
        have h8 := rt_set1 (ad := ad) R.mv (x := x) (v := v)
        simp only [rf_set1, hx] at h8
        have sb : cs_setb 1 v = if v = 0 then 1 else if v = 1 then 1 else 0 := by unfold cs_setb; rw [if_neg (by decide), if_pos rfl]
        rw [sb] at h7
        by_cases c0 : v = 0 ∨ v = 1
        · have b0 : ¬ v < 0 ∧ ¬ v > 1 := by rcases c0 with h | h <;> rw [h] <;> decide
          have bb : (if v = 0 then (1 : Int32) else if v = 1 then 1 else 0) = 1 := by rcases c0 with h | h <;> rw [h] <;> decide
          rw [bb, if_neg (show ¬ (1 : Int32) = 0 by decide)] at h7
          have sv : cs_sval (o.1 0) l s 1 = o.1 0 (101 + 8 * s + 4) := by unfold cs_sval; rw [if_neg (by decide), if_pos rfl]; exact b01 z.1
          have st : cs_set (o.1 0) s 1 v = upd (o.1 0) (101 + 8 * s + 4) v := by
            unfold cs_set; rw [if_neg (by decide), if_pos rfl]
            rcases c0 with h | h <;> rw [h] <;> rfl
          rw [sv, st] at h7
          have h9 := rt_set1 (ad := ad) (sv_mv R (upd (o.1 0) (101 + 8 * s + 4) v) (o.1 0 (101 + 8 * s + 4)).toInt64) (x := x) (v := v)
          simp only [rf_set1, hx, csv_hi R (show 6 ≤ 8 by decide)] at h9
          rw [if_neg b0.1, if_neg b0.2, ag_s A hs.1 (by omega) (by omega) (by omega)] at h9
          exact SP_sv R h7 h9 trivial (S_soft R.1 (Or.inl ⟨s, hs16, Or.inl ⟨rfl, c0⟩⟩))
        · have c1 : ¬ v = 0 := fun q => c0 (Or.inl q)
          have c2 : ¬ v = 1 := fun q => c0 (Or.inr q)
          rw [if_neg c1, if_neg c2, if_pos rfl] at h7
          have h8' : CT ad MX8_set [.ref (ad 14 0 0), .int x, .int 1, .int v] o (OT (mR 2 o)) := by
            by_cases d1 : v < 0
            · rw [if_pos d1] at h8; exact h8
            · rw [if_neg d1] at h8
              by_cases d2 : v > 1
              · rw [if_pos d2] at h8; exact h8
              · exact absurd (i32_t2 d1 (by
                  have q := Int32.not_lt.mp d2
                  rw [Int32.le_iff_toInt_le] at q
                  rw [Int32.lt_iff_toInt_lt]
                  have e1 : (1 : Int32).toInt = 1 := rfl
                  have e2 : (2 : Int32).toInt = 2 := rfl
                  omega)) c0
          exact SP_x (by simp) h7 h8'
      · by_cases w2 : w = 2
        · subst w2
          have h8 := rt_set2 (ad := ad) R.mv (x := x) (v := v)
          simp only [rf_set2, hx] at h8
          have sb : cs_setb 2 v = if v < 0 then 0 else if v > 99 then 0 else 1 := by unfold cs_setb; rw [if_neg (by decide), if_neg (by decide), if_pos rfl]
          rw [sb] at h7
          by_cases d1 : v < 0
          · rw [if_pos d1] at h7 h8; rw [if_pos rfl] at h7; exact SP_x (by simp) h7 h8
          · rw [if_neg d1] at h7 h8
            by_cases d2 : v > 99
            · rw [if_pos d2] at h7 h8; rw [if_pos rfl] at h7; exact SP_x (by simp) h7 h8
            · rw [if_neg d2, if_neg (show ¬ (1 : Int32) = 0 by decide)] at h7
              have sv : cs_sval (o.1 0) l s 2 = o.1 0 (101 + 8 * s + 5) := by unfold cs_sval; rw [if_neg (by decide), if_neg (by decide), if_pos rfl]
              have st : cs_set (o.1 0) s 2 v = upd (o.1 0) (101 + 8 * s + 5) v := by unfold cs_set; rw [if_neg (by decide), if_neg (by decide)]
              rw [sv, st] at h7
              have h9 := rt_set2 (ad := ad) (sv_mv R (upd (o.1 0) (101 + 8 * s + 5) v) (o.1 0 (101 + 8 * s + 5)).toInt64) (x := x) (v := v)
              simp only [rf_set2, hx, csv_hi R (show 6 ≤ 8 by decide)] at h9
              rw [if_neg d1, if_neg d2, ag_s A hs.1 (by omega) (by omega) (by omega)] at h9
              exact SP_sv R h7 h9 trivial (S_soft R.1 (Or.inl ⟨s, hs16, Or.inr rfl⟩))
        · have h8 := rt_setx (ad := ad) R.mv (x := x) (v := v) w0 w1 w2
          simp only [rf_setx, hx] at h8
          have sb : cs_setb w v = 0 := by unfold cs_setb; rw [if_neg w0, if_neg w1, if_neg w2]
          rw [if_pos sb] at h7
          exact SP_x (by simp) h7 h8
theorem i32_8 {x : Int32} (h : ¬ x > 7) : x < 8 := le_lt (k := 7) (by decide) h
theorem i32_8' {x : Int32} (h : x > 7) : ¬ x < 8 := fun q => by
  rw [Int32.lt_iff_toInt_lt] at q
  have h2 := Int32.lt_iff_toInt_lt.mp h
  have e1 : (7 : Int32).toInt = 7 := rfl
  have e2 : (8 : Int32).toInt = 8 := rfl
  omega
theorem i32_9 {x : Int32} (h : ¬ x > 8) : x < 9 := le_lt (k := 8) (by decide) h
theorem i32_9' {x : Int32} (h : x > 8) : ¬ x < 9 := fun q => by
  rw [Int32.lt_iff_toInt_lt] at q
  have h2 := Int32.lt_iff_toInt_lt.mp h
  have e1 : (8 : Int32).toInt = 8 := rfl
  have e2 : (9 : Int32).toInt = 9 := rfl
  omega
theorem sp_sub (R : Rel o n m c) {x w : Int32} : SP ad MX7_subscriber MX8_subscriber [.int x, .int w] Tr [(eI, 1), (eA, 2)] o := by
  have h7 := ct_sub (ad := ad) R.vs (x := x) (w := w)
  have h8 := rt_sub (ad := ad) R.mv (x := x) (w := w)
  unfold cf_sub at h7
  unfold rf_sub at h8
  rcases hx : lk m x with _ | s
  · simp only [hx] at h7 h8; exact SP_x (by simp) h7 h8
  · obtain ⟨l, hl, hs, e0, e8, ex⟩ := sub_of R hx
    simp only [hx, e0] at h7
    simp only [hx] at h8
    by_cases a1 : w < 0
    · rw [if_pos a1] at h7 h8; exact SP_x (by simp) h7 h8
    · rw [if_neg a1] at h7 h8
      by_cases a2 : w > 7
      · rw [if_neg (i32_8' a2)] at h7; rw [if_pos a2] at h8; exact SP_x (by simp) h7 h8
      · rw [if_pos (i32_8 a2)] at h7
        have h9 := rt_sub (ad := ad) (R.j 1 (cs_sval (o.1 0) l s w).toInt64).mv (x := x) (w := w)
        unfold rf_sub at h9
        simp only [hx] at h9
        rw [if_neg a1, if_neg a2, show (wd_j o 1 (cs_sval (o.1 0) l s w).toInt64).1 8 = o.1 8 from rfl, e8, rd_told R.1 hl hs] at h9
        exact SP_rd R h7 h9 trivial
theorem sp_loop (R : Rel o n m c) {x w : Int32} : SP ad MX7_loop MX8_loop [.int x, .int w] Tr [(eI, 1), (eA, 2)] o := by
  have h7 := ct_loop (ad := ad) R.vs (x := x) (w := w)
  have h8 := rt_loop (ad := ad) R.mv (x := x) (w := w)
  unfold cf_loop at h7
  unfold rf_loop at h8
  rcases hx : lk n x with _ | l
  · simp only [hx] at h7 h8; exact SP_x (by simp) h7 h8
  · have hl := (lk_some hx).2
    simp only [hx] at h7 h8
    by_cases a1 : w < 0
    · rw [if_pos a1] at h7 h8; exact SP_x (by simp) h7 h8
    · rw [if_neg a1] at h7 h8
      by_cases a2 : w > 8
      · rw [if_neg (i32_9' a2)] at h7; rw [if_pos a2] at h8; exact SP_x (by simp) h7 h8
      · rw [if_pos (i32_9 a2)] at h7
        have h9 := rt_loop (ad := ad) (R.j 1 (cs_lval (o.1 0) m l w).toInt64).mv (x := x) (w := w)
        unfold rf_loop at h9
        simp only [hx] at h9
        rw [if_neg a1, if_neg a2, show (wd_j o 1 (cs_lval (o.1 0) m l w).toInt64).1 8 = o.1 8 from rfl, rd_tl R.1 hl] at h9
        exact SP_rd R h7 h9 trivial
theorem sp_lift (R : Rel o n m c) {x : Int32} : SP ad MX7_lift MX8_lift [.int x] Tr [(eI, 1), (eS, 2)] o := by
  have hm := R.1.1.2.2.2.1
  have A := R.1.2.2.1
  have h7 := ct_lift (ad := ad) R.vs (x := x)
  have h8 := rt_lift (ad := ad) R.mv (Iv_mi R.1) (x := x)
  unfold cf_lift at h7
  unfold rf_lift at h8
  rcases hx : lk m x with _ | s
  · simp only [hx] at h7 h8; exact SP_x (by simp) h7 h8
  · obtain ⟨l, hl, hs, e0, e8, ex⟩ := sub_of R hx
    have z := (R.1.2.1.2 s (by have := hs.1; omega)).2.1
    have a8 : o.1 8 (101 + 8 * s + 6) = o.1 0 (101 + 8 * s + 6) := ag_s A hs.1 (by omega) (by omega) (by omega)
    simp only [hx, e0] at h7
    simp only [hx, e8] at h8
    by_cases a1 : o.1 0 (101 + 8 * s + 6) = 0
    · rw [if_pos a1] at h7
      have I2 := S_lift R.1 hl hs a1 rfl
      have h9 := rt_lift (ad := ad) (sv_mv R (cs_lift (o.1 0) n m l s) (cs_lift (o.1 0) n m l s (20 * l + 1)).toInt64) (by rw [csv_hi R (by decide)]; exact Iv_mi R.1) (x := x)
      simp only [rf_lift, hx, csv_hi R (show 6 ≤ 8 by decide), e8] at h9
      rw [if_neg (show ¬ o.1 8 (101 + 8 * s + 6) = 1 by rw [a8, a1]; decide), ag_l I2.2.2.1 hl (by omega) (by omega)] at h9
      exact SP_sv R h7 h9 trivial I2
    · rw [if_neg a1] at h7
      rw [if_pos (by rw [a8]; exact z.resolve_left a1)] at h8
      exact SP_x (by simp) h7 h8
theorem sp_hang (R : Rel o n m c) {x : Int32} : SP ad MX7_hang MX8_hang [.int x] Tr [(eI, 1), (eS, 2)] o := by
  have hm := R.1.1.2.2.2.1
  have A := R.1.2.2.1
  have h7 := ct_hang (ad := ad) R.vs (x := x)
  have h8 := rt_hang (ad := ad) R.mv (Iv_mi R.1) (x := x)
  unfold cf_hang at h7
  unfold rf_hang at h8
  rcases hx : lk m x with _ | s
  · simp only [hx] at h7 h8; exact SP_x (by simp) h7 h8
  · obtain ⟨l, hl, hs, e0, e8, ex⟩ := sub_of R hx
    have a8 : o.1 8 (101 + 8 * s + 6) = o.1 0 (101 + 8 * s + 6) := ag_s A hs.1 (by omega) (by omega) (by omega)
    simp only [hx, e0] at h7
    simp only [hx, e8] at h8
    by_cases a1 : o.1 0 (101 + 8 * s + 6) = 0
    · rw [if_pos a1] at h7
      rw [if_pos (a8.trans a1)] at h8
      exact SP_x (by simp) h7 h8
    · rw [if_neg a1] at h7
      have I2 := S_hang R.1 hl hs a1
      have h9 := rt_hang (ad := ad) (sv_mv R (cs_hang (o.1 0) n m l s) (cs_hang (o.1 0) n m l s (20 * l + 1)).toInt64) (by rw [csv_hi R (by decide)]; exact Iv_mi R.1) (x := x)
      simp only [rf_hang, hx, csv_hi R (show 6 ≤ 8 by decide), e8] at h9
      rw [if_neg (show ¬ o.1 8 (101 + 8 * s + 6) = 0 by rw [a8]; exact a1), ag_l I2.2.2.1 hl (by omega) (by omega)] at h9
      exact SP_sv R h7 h9 trivial I2
end
