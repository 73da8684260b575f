/-! the reference: who is where -/
theorem nI_m1 {s : Nat} (hs : s < 2 ^ 31) : ¬ nI s = -1 := fun e => by
  have h9 := congrArg Int32.toInt e
  rw [nI_toInt hs] at h9
  have h8 : (-1 : Int32).toInt = -1 := by decide
  rw [h8] at h9
  omega
theorem lk_hi {n : Nat} {x : Int32} (hn : n ≤ 16) (h : lk n x = none) (h0 : ¬ x < 0) : x > nI n - 1 := by
  rcases lk_none rfl hn h with h1 | h1
  · exact absurd h1 h0
  · obtain ⟨j, hj, rfl⟩ := nI_of h0
    have h2 : n ≤ j := (nI_leI (by omega) hj).1 h1
    rcases Nat.eq_zero_or_pos n with rfl | hp
    · show nI 0 - 1 < nI j
      have e : nI 0 - 1 = -1 := by decide
      rw [e, Int32.lt_iff_toInt_lt, nI_toInt hj]
      have : (-1 : Int32).toInt = -1 := by decide
      omega
    · obtain ⟨k, rfl⟩ : ∃ k, n = k + 1 := ⟨n - 1, by omega⟩
      rw [nI_pred]
      exact nI_lt (by omega) hj
theorem lk_in {n e : Nat} {x : Int32} (hn : n ≤ 16) (h : lk n x = some e) : ¬ x < 0 ∧ ¬ x > nI n - 1 := by
  obtain ⟨rfl, he⟩ := lk_some h
  refine ⟨nI_pos (by omega), ?_⟩
  obtain ⟨k, rfl⟩ : ∃ k, n = k + 1 := ⟨n - 1, by omega⟩
  rw [nI_pred]
  exact nI_nlt (by omega) (by omega)
theorem ct_X8_isLoop_some {ad : Nat → Nat → Nat → Nat} {o : wd_S} {n m : Nat} (G : cg (o.1 8) n m) {e : Nat} {x : Int32} (h : lk n x = some e) : CT ad MX8_isLoop [.ref (ad 14 0 0), .int x] o (RT (some (.int 1)) o) := by
  obtain ⟨g1, g2, g3, g4, g5, g6⟩ := id G
  refine CT.of (L := [some (.ref (ad 14 0 0)), some (.int x)]) rfl rfl (by decide) (Nat.le_of_ble_eq_true rfl) rfl ?_
  refine aw_iload_n (x := x) rfl dX8_isLoop_0 ?_
  refine aw_iconst (v := 0) (by decide) dX8_isLoop_1 ?_
  refine aw_aload_n (x := ad 14 0 0) rfl dX8_isLoop_2 ?_
  refine aw_getr (q := (15, 0, 0)) wv14 rfl flX8_7 rfl rfl dX8_isLoop_3 ?_
  refine aw_iconst (v := 0) (by decide) dX8_isLoop_6 ?_
  refine aw_ild (x := 0) (q := (8, 0)) (y := nI n) (by decide) (wv15 (by decide)) rfl G.1 (Nat.le_of_ble_eq_true rfl) rfl dX8_isLoop_7 ?_
  refine aw_iconst (v := 1) (by decide) dX8_isLoop_8 ?_
  refine aw_isubz (z := (nI n) - 1) rfl dX8_isLoop_9 ?_
  refine aw_rS (As := [.int x, .int 0, .int ((nI n) - 1)]) (S := []) (v := some (.int 1)) (o2 := o) (ct_within_in (lk_in (by omega) h).1 (lk_in (by omega) h).2) (mm_fit_of cbX8_within (by decide) (by decide)) wq938 wq939 rfl rfl (Nat.le_of_ble_eq_true rfl) (by decide) (by decide) rfl dX8_isLoop_10 ?_
  exact aw_zret rfl (by decide) (by decide) (by decide) dX8_isLoop_13 ⟨by (first | with_reducible rfl | (simp [oI, mR, wd_w_row, row_self, row_row]; done) | (simp_all [oI, mR, wd_w_row, row_self, row_row]; done)), by (first | with_reducible rfl | (simp [oI, mR, wd_w_row, row_self, row_row]; done) | (simp_all [oI, mR, wd_w_row, row_self, row_row]; done))⟩
theorem ct_X8_isLoop_n1 {ad : Nat → Nat → Nat → Nat} {o : wd_S} {n m : Nat} (G : cg (o.1 8) n m) {x : Int32} (h : x < 0) : CT ad MX8_isLoop [.ref (ad 14 0 0), .int x] o (RT (some (.int 0)) o) := by
  obtain ⟨g1, g2, g3, g4, g5, g6⟩ := id G
  refine CT.of (L := [some (.ref (ad 14 0 0)), some (.int x)]) rfl rfl (by decide) (Nat.le_of_ble_eq_true rfl) rfl ?_
  refine aw_iload_n (x := x) rfl dX8_isLoop_0 ?_
  refine aw_iconst (v := 0) (by decide) dX8_isLoop_1 ?_
  refine aw_aload_n (x := ad 14 0 0) rfl dX8_isLoop_2 ?_
  refine aw_getr (q := (15, 0, 0)) wv14 rfl flX8_7 rfl rfl dX8_isLoop_3 ?_
  refine aw_iconst (v := 0) (by decide) dX8_isLoop_6 ?_
  refine aw_ild (x := 0) (q := (8, 0)) (y := nI n) (by decide) (wv15 (by decide)) rfl G.1 (Nat.le_of_ble_eq_true rfl) rfl dX8_isLoop_7 ?_
  refine aw_iconst (v := 1) (by decide) dX8_isLoop_8 ?_
  refine aw_isubz (z := (nI n) - 1) rfl dX8_isLoop_9 ?_
  refine aw_rS (As := [.int x, .int 0, .int ((nI n) - 1)]) (S := []) (v := some (.int 0)) (o2 := o) (ct_within_lo h) (mm_fit_of cbX8_within (by decide) (by decide)) wq938 wq939 rfl rfl (Nat.le_of_ble_eq_true rfl) (by decide) (by decide) rfl dX8_isLoop_10 ?_
  exact aw_zret rfl (by decide) (by decide) (by decide) dX8_isLoop_13 ⟨by (first | with_reducible rfl | (simp [oI, mR, wd_w_row, row_self, row_row]; done) | (simp_all [oI, mR, wd_w_row, row_self, row_row]; done)), by (first | with_reducible rfl | (simp [oI, mR, wd_w_row, row_self, row_row]; done) | (simp_all [oI, mR, wd_w_row, row_self, row_row]; done))⟩
theorem ct_X8_isLoop_n2 {ad : Nat → Nat → Nat → Nat} {o : wd_S} {n m : Nat} (G : cg (o.1 8) n m) {x : Int32} (h : x > nI n - 1) : CT ad MX8_isLoop [.ref (ad 14 0 0), .int x] o (RT (some (.int 0)) o) := by
  obtain ⟨g1, g2, g3, g4, g5, g6⟩ := id G
  refine CT.of (L := [some (.ref (ad 14 0 0)), some (.int x)]) rfl rfl (by decide) (Nat.le_of_ble_eq_true rfl) rfl ?_
  refine aw_iload_n (x := x) rfl dX8_isLoop_0 ?_
  refine aw_iconst (v := 0) (by decide) dX8_isLoop_1 ?_
  refine aw_aload_n (x := ad 14 0 0) rfl dX8_isLoop_2 ?_
  refine aw_getr (q := (15, 0, 0)) wv14 rfl flX8_7 rfl rfl dX8_isLoop_3 ?_
  refine aw_iconst (v := 0) (by decide) dX8_isLoop_6 ?_
  refine aw_ild (x := 0) (q := (8, 0)) (y := nI n) (by decide) (wv15 (by decide)) rfl G.1 (Nat.le_of_ble_eq_true rfl) rfl dX8_isLoop_7 ?_
  refine aw_iconst (v := 1) (by decide) dX8_isLoop_8 ?_
  refine aw_isubz (z := (nI n) - 1) rfl dX8_isLoop_9 ?_
  refine aw_rS (As := [.int x, .int 0, .int ((nI n) - 1)]) (S := []) (v := some (.int 0)) (o2 := o) (ct_within_hi h) (mm_fit_of cbX8_within (by decide) (by decide)) wq938 wq939 rfl rfl (Nat.le_of_ble_eq_true rfl) (by decide) (by decide) rfl dX8_isLoop_10 ?_
  exact aw_zret rfl (by decide) (by decide) (by decide) dX8_isLoop_13 ⟨by (first | with_reducible rfl | (simp [oI, mR, wd_w_row, row_self, row_row]; done) | (simp_all [oI, mR, wd_w_row, row_self, row_row]; done)), by (first | with_reducible rfl | (simp [oI, mR, wd_w_row, row_self, row_row]; done) | (simp_all [oI, mR, wd_w_row, row_self, row_row]; done))⟩
theorem ct_X8_isLoop_none {ad : Nat → Nat → Nat → Nat} {o : wd_S} {n m : Nat} (G : cg (o.1 8) n m) {x : Int32} (h : lk n x = none) : CT ad MX8_isLoop [.ref (ad 14 0 0), .int x] o (RT (some (.int 0)) o) := by
  by_cases h0 : x < 0
  · exact ct_X8_isLoop_n1 G h0
  · exact ct_X8_isLoop_n2 G (lk_hi (by have := G.2.1; have := G.2.2.2.1; omega) h h0)
theorem ct_X8_isOne_some {ad : Nat → Nat → Nat → Nat} {o : wd_S} {n m : Nat} (G : cg (o.1 8) n m) {e : Nat} {x : Int32} (h : lk m x = some e) : CT ad MX8_isOne [.ref (ad 14 0 0), .int x] o (RT (some (.int 1)) o) := by
  obtain ⟨g1, g2, g3, g4, g5, g6⟩ := id G
  refine CT.of (L := [some (.ref (ad 14 0 0)), some (.int x)]) rfl rfl (by decide) (Nat.le_of_ble_eq_true rfl) rfl ?_
  refine aw_iload_n (x := x) rfl dX8_isOne_0 ?_
  refine aw_iconst (v := 0) (by decide) dX8_isOne_1 ?_
  refine aw_aload_n (x := ad 14 0 0) rfl dX8_isOne_2 ?_
  refine aw_getr (q := (15, 0, 0)) wv14 rfl flX8_7 rfl rfl dX8_isOne_3 ?_
  refine aw_bipush (v := 101) (by decide) dX8_isOne_6 ?_
  refine aw_ild (x := 101) (q := (8, 101)) (y := nI m) (by decide) (wv15 (by decide)) rfl G.2.2.1 (Nat.le_of_ble_eq_true rfl) rfl dX8_isOne_8 ?_
  refine aw_iconst (v := 1) (by decide) dX8_isOne_9 ?_
  refine aw_isubz (z := (nI m) - 1) rfl dX8_isOne_10 ?_
  refine aw_rS (As := [.int x, .int 0, .int ((nI m) - 1)]) (S := []) (v := some (.int 1)) (o2 := o) (ct_within_in (lk_in (by omega) h).1 (lk_in (by omega) h).2) (mm_fit_of cbX8_within (by decide) (by decide)) wq938 wq939 rfl rfl (Nat.le_of_ble_eq_true rfl) (by decide) (by decide) rfl dX8_isOne_11 ?_
  exact aw_zret rfl (by decide) (by decide) (by decide) dX8_isOne_14 ⟨by (first | with_reducible rfl | (simp [oI, mR, wd_w_row, row_self, row_row]; done) | (simp_all [oI, mR, wd_w_row, row_self, row_row]; done)), by (first | with_reducible rfl | (simp [oI, mR, wd_w_row, row_self, row_row]; done) | (simp_all [oI, mR, wd_w_row, row_self, row_row]; done))⟩
theorem ct_X8_isOne_n1 {ad : Nat → Nat → Nat → Nat} {o : wd_S} {n m : Nat} (G : cg (o.1 8) n m) {x : Int32} (h : x < 0) : CT ad MX8_isOne [.ref (ad 14 0 0), .int x] o (RT (some (.int 0)) o) := by
  obtain ⟨g1, g2, g3, g4, g5, g6⟩ := id G
  refine CT.of (L := [some (.ref (ad 14 0 0)), some (.int x)]) rfl rfl (by decide) (Nat.le_of_ble_eq_true rfl) rfl ?_
  refine aw_iload_n (x := x) rfl dX8_isOne_0 ?_
  refine aw_iconst (v := 0) (by decide) dX8_isOne_1 ?_
  refine aw_aload_n (x := ad 14 0 0) rfl dX8_isOne_2 ?_
  refine aw_getr (q := (15, 0, 0)) wv14 rfl flX8_7 rfl rfl dX8_isOne_3 ?_
  refine aw_bipush (v := 101) (by decide) dX8_isOne_6 ?_
  refine aw_ild (x := 101) (q := (8, 101)) (y := nI m) (by decide) (wv15 (by decide)) rfl G.2.2.1 (Nat.le_of_ble_eq_true rfl) rfl dX8_isOne_8 ?_
  refine aw_iconst (v := 1) (by decide) dX8_isOne_9 ?_
  refine aw_isubz (z := (nI m) - 1) rfl dX8_isOne_10 ?_
  refine aw_rS (As := [.int x, .int 0, .int ((nI m) - 1)]) (S := []) (v := some (.int 0)) (o2 := o) (ct_within_lo h) (mm_fit_of cbX8_within (by decide) (by decide)) wq938 wq939 rfl rfl (Nat.le_of_ble_eq_true rfl) (by decide) (by decide) rfl dX8_isOne_11 ?_
  exact aw_zret rfl (by decide) (by decide) (by decide) dX8_isOne_14 ⟨by (first | with_reducible rfl | (simp [oI, mR, wd_w_row, row_self, row_row]; done) | (simp_all [oI, mR, wd_w_row, row_self, row_row]; done)), by (first | with_reducible rfl | (simp [oI, mR, wd_w_row, row_self, row_row]; done) | (simp_all [oI, mR, wd_w_row, row_self, row_row]; done))⟩
theorem ct_X8_isOne_n2 {ad : Nat → Nat → Nat → Nat} {o : wd_S} {n m : Nat} (G : cg (o.1 8) n m) {x : Int32} (h : x > nI m - 1) : CT ad MX8_isOne [.ref (ad 14 0 0), .int x] o (RT (some (.int 0)) o) := by
  obtain ⟨g1, g2, g3, g4, g5, g6⟩ := id G
  refine CT.of (L := [some (.ref (ad 14 0 0)), some (.int x)]) rfl rfl (by decide) (Nat.le_of_ble_eq_true rfl) rfl ?_
  refine aw_iload_n (x := x) rfl dX8_isOne_0 ?_
  refine aw_iconst (v := 0) (by decide) dX8_isOne_1 ?_
  refine aw_aload_n (x := ad 14 0 0) rfl dX8_isOne_2 ?_
  refine aw_getr (q := (15, 0, 0)) wv14 rfl flX8_7 rfl rfl dX8_isOne_3 ?_
  refine aw_bipush (v := 101) (by decide) dX8_isOne_6 ?_
  refine aw_ild (x := 101) (q := (8, 101)) (y := nI m) (by decide) (wv15 (by decide)) rfl G.2.2.1 (Nat.le_of_ble_eq_true rfl) rfl dX8_isOne_8 ?_
  refine aw_iconst (v := 1) (by decide) dX8_isOne_9 ?_
  refine aw_isubz (z := (nI m) - 1) rfl dX8_isOne_10 ?_
  refine aw_rS (As := [.int x, .int 0, .int ((nI m) - 1)]) (S := []) (v := some (.int 0)) (o2 := o) (ct_within_hi h) (mm_fit_of cbX8_within (by decide) (by decide)) wq938 wq939 rfl rfl (Nat.le_of_ble_eq_true rfl) (by decide) (by decide) rfl dX8_isOne_11 ?_
  exact aw_zret rfl (by decide) (by decide) (by decide) dX8_isOne_14 ⟨by (first | with_reducible rfl | (simp [oI, mR, wd_w_row, row_self, row_row]; done) | (simp_all [oI, mR, wd_w_row, row_self, row_row]; done)), by (first | with_reducible rfl | (simp [oI, mR, wd_w_row, row_self, row_row]; done) | (simp_all [oI, mR, wd_w_row, row_self, row_row]; done))⟩
theorem ct_X8_isOne_none {ad : Nat → Nat → Nat → Nat} {o : wd_S} {n m : Nat} (G : cg (o.1 8) n m) {x : Int32} (h : lk m x = none) : CT ad MX8_isOne [.ref (ad 14 0 0), .int x] o (RT (some (.int 0)) o) := by
  by_cases h0 : x < 0
  · exact ct_X8_isOne_n1 G h0
  · exact ct_X8_isOne_n2 G (lk_hi (by have := G.2.1; have := G.2.2.2.1; omega) h h0)
def mf_code (x : Int32) : Int32 := if x < 1 then 0 else if x > 14 then 0 else 1
def mf_rung (N : Nat → Int32) (l : Nat) : Int32 := if N (20 * l + 1) = 3 then 1 else if N (20 * l + 1) = 7 then 1 else 0
def mf_cut (N : Nat → Int32) (l s : Nat) : Int32 := if N (20 * l + 7) = -1 then 0 else if N (20 * l + 8) = 1 then 1 else if N (101 + 8 * s + 2) < N (20 * l + 7) then 0 else 1
theorem mcut_01 (N : Nat → Int32) (l s : Nat) : mf_cut N l s = 0 ∨ mf_cut N l s = 1 := by unfold mf_cut; split <;> (try split) <;> (try split) <;> simp
def mf_state (N : Nat → Int32) (l s : Nat) : Int32 := if N (101 + 8 * s + 6) = 0 then 0 else if mf_cut N l s = 0 then (if N (101 + 8 * s + 7) ≤ 0 then 2 else N (101 + 8 * s + 7)) else 1
def mf_told (N : Nat → Int32) (l s : Nat) (w : Int32) : Int32 := if w = 0 then N (101 + 8 * s + 3) else if w = 1 then N (101 + 8 * s + 4) else if w = 2 then N (101 + 8 * s + 5) else if w = 3 then nI l else if w = 4 then N (101 + 8 * s + 2) else if w = 5 then N (101 + 8 * s + 6) else if w = 6 then mf_state N l s else N (101 + 8 * s + 8)
def mf_mem (N : Nat → Int32) (l i : Nat) : Int32 := if N (101 + 8 * i + 1) = nI l then 1 else 0
def mf_tl (N : Nat → Int32) (m l : Nat) (w : Int32) : Int32 := if w = 0 then N (20 * l + 1) else if w = 1 then N (20 * l + 2) else if w = 2 then N (20 * l + 3) else if w = 3 then N (20 * l + 4) else if w = 4 then N (20 * l + 5) else if w = 5 then N (20 * l + 6) else if w = 6 then N (20 * l + 7) else if w = 7 then N (20 * l + 8) else sumF (mf_mem N l) m 0
theorem ct_X8_isCode {ad : Nat → Nat → Nat → Nat} {o : wd_S} {x : Int32} : CT ad MX8_isCode [.int x] o (RT (some (.int (mf_code x))) o) := by
  refine CT.of (L := [some (.int x)]) rfl rfl (by decide) (Nat.le_of_ble_eq_true rfl) rfl ?_
  refine aw_iload_n (x := x) rfl dX8_isCode_0 ?_
  refine aw_iconst (v := 1) (by decide) dX8_isCode_1 ?_
  refine aw_bipush (v := 14) (by decide) dX8_isCode_2 ?_
  by_cases w1 : x < 1
  · skip
    refine aw_rS (As := [.int x, .int 1, .int 14]) (S := []) (v := some (.int 0)) (o2 := o) (ct_within_lo w1) (mm_fit_of cbX8_within (by decide) (by decide)) wq938 wq939 rfl rfl (Nat.le_of_ble_eq_true rfl) (by decide) (by decide) rfl dX8_isCode_4 ?_
    exact aw_zret rfl (by decide) (by decide) (by decide) dX8_isCode_7 ⟨by (first | with_reducible rfl | (simp [mf_code, oI, mR, wd_w_row, row_self, row_row, w1]; done) | (simp_all [mf_code, oI, mR, wd_w_row, row_self, row_row, w1]; done)), by (first | with_reducible rfl | (simp [mf_code, oI, mR, wd_w_row, row_self, row_row, w1]; done) | (simp_all [mf_code, oI, mR, wd_w_row, row_self, row_row, w1]; done))⟩
  · skip
    by_cases zw1 : x > 14
    · skip
      refine aw_rS (As := [.int x, .int 1, .int 14]) (S := []) (v := some (.int 0)) (o2 := o) (ct_within_hi zw1) (mm_fit_of cbX8_within (by decide) (by decide)) wq938 wq939 rfl rfl (Nat.le_of_ble_eq_true rfl) (by decide) (by decide) rfl dX8_isCode_4 ?_
      exact aw_zret rfl (by decide) (by decide) (by decide) dX8_isCode_7 ⟨by (first | with_reducible rfl | (simp [mf_code, oI, mR, wd_w_row, row_self, row_row, w1, zw1]; done) | (simp_all [mf_code, oI, mR, wd_w_row, row_self, row_row, w1, zw1]; done)), by (first | with_reducible rfl | (simp [mf_code, oI, mR, wd_w_row, row_self, row_row, w1, zw1]; done) | (simp_all [mf_code, oI, mR, wd_w_row, row_self, row_row, w1, zw1]; done))⟩
    · skip
      refine aw_rS (As := [.int x, .int 1, .int 14]) (S := []) (v := some (.int 1)) (o2 := o) (ct_within_in w1 zw1) (mm_fit_of cbX8_within (by decide) (by decide)) wq938 wq939 rfl rfl (Nat.le_of_ble_eq_true rfl) (by decide) (by decide) rfl dX8_isCode_4 ?_
      exact aw_zret rfl (by decide) (by decide) (by decide) dX8_isCode_7 ⟨by (first | with_reducible rfl | (simp [mf_code, oI, mR, wd_w_row, row_self, row_row, w1, zw1]; done) | (simp_all [mf_code, oI, mR, wd_w_row, row_self, row_row, w1, zw1]; done)), by (first | with_reducible rfl | (simp [mf_code, oI, mR, wd_w_row, row_self, row_row, w1, zw1]; done) | (simp_all [mf_code, oI, mR, wd_w_row, row_self, row_row, w1, zw1]; done))⟩
theorem ct_X8_isRung {ad : Nat → Nat → Nat → Nat} {o : wd_S} {n m : Nat} (G : cg (o.1 8) n m) {l : Nat} (hl : l < 5) : CT ad MX8_isRung [.ref (ad 14 0 0), .int (nI l)] o (RT (some (.int (mf_rung (o.1 8) l))) o) := by
  obtain ⟨g1, g2, g3, g4, g5, g6⟩ := id G
  refine CT.of (L := [some (.ref (ad 14 0 0)), some (.int (nI l))]) rfl rfl (by decide) (Nat.le_of_ble_eq_true rfl) rfl ?_
  refine aw_aload_n (x := ad 14 0 0) rfl dX8_isRung_0 ?_
  refine aw_iload_n (x := (nI l)) rfl dX8_isRung_1 ?_
  refine aw_iconst (v := 0) (by decide) dX8_isRung_2 ?_
  refine aw_rV (As := [.int (nI l), .int 0]) (S := []) (v := some (.int (o.1 8 (20 * l + 1)))) (o2 := o) (ct_X8_of (l := l) (w := 0) (by omega) (by decide)) (mm_fit_of cbX8_of (by decide) (by decide)) wq969 cvX8_of wv14 rfl rfl rfl (Nat.le_of_ble_eq_true rfl) (by decide) (by decide) rfl dX8_isRung_3 ?_
  refine aw_iconst (v := 3) (by decide) dX8_isRung_6 ?_
  refine aw_icmp_eq (tgt := 21) (by decide) dX8_isRung_7 (fun b1 => ?_) (fun b1 => ?_)
  · skip
    refine aw_iconst (v := 1) (by decide) dX8_isRung_21 ?_
    refine aw_goto (tgt := 26) (by decide) dX8_isRung_22 ?_
    exact aw_zret rfl (by decide) (by decide) (by decide) dX8_isRung_26 ⟨by (first | with_reducible rfl | (simp [mf_rung, oI, mR, wd_w_row, row_self, row_row, b1]; done) | (simp_all [mf_rung, oI, mR, wd_w_row, row_self, row_row, b1]; done)), by (first | with_reducible rfl | (simp [mf_rung, oI, mR, wd_w_row, row_self, row_row, b1]; done) | (simp_all [mf_rung, oI, mR, wd_w_row, row_self, row_row, b1]; done))⟩
  · skip
    refine aw_aload_n (x := ad 14 0 0) rfl dX8_isRung_10 ?_
    refine aw_iload_n (x := (nI l)) rfl dX8_isRung_11 ?_
    refine aw_iconst (v := 0) (by decide) dX8_isRung_12 ?_
    refine aw_rV (As := [.int (nI l), .int 0]) (S := []) (v := some (.int (o.1 8 (20 * l + 1)))) (o2 := o) (ct_X8_of (l := l) (w := 0) (by omega) (by decide)) (mm_fit_of cbX8_of (by decide) (by decide)) wq969 cvX8_of wv14 rfl rfl rfl (Nat.le_of_ble_eq_true rfl) (by decide) (by decide) rfl dX8_isRung_13 ?_
    refine aw_bipush (v := 7) (by decide) dX8_isRung_16 ?_
    refine aw_icmp_ne (tgt := 25) (by decide) dX8_isRung_18 (fun b2 => ?_) (fun b2 => ?_)
    · skip
      refine aw_iconst (v := 0) (by decide) dX8_isRung_25 ?_
      exact aw_zret rfl (by decide) (by decide) (by decide) dX8_isRung_26 ⟨by (first | with_reducible rfl | (simp [mf_rung, oI, mR, wd_w_row, row_self, row_row, b1, b2]; done) | (simp_all [mf_rung, oI, mR, wd_w_row, row_self, row_row, b1, b2]; done)), by (first | with_reducible rfl | (simp [mf_rung, oI, mR, wd_w_row, row_self, row_row, b1, b2]; done) | (simp_all [mf_rung, oI, mR, wd_w_row, row_self, row_row, b1, b2]; done))⟩
    · skip
      refine aw_iconst (v := 1) (by decide) dX8_isRung_21 ?_
      refine aw_goto (tgt := 26) (by decide) dX8_isRung_22 ?_
      exact aw_zret rfl (by decide) (by decide) (by decide) dX8_isRung_26 ⟨by (first | with_reducible rfl | (simp [mf_rung, oI, mR, wd_w_row, row_self, row_row, b1, b2]; done) | (simp_all [mf_rung, oI, mR, wd_w_row, row_self, row_row, b1, b2]; done)), by (first | with_reducible rfl | (simp [mf_rung, oI, mR, wd_w_row, row_self, row_row, b1, b2]; done) | (simp_all [mf_rung, oI, mR, wd_w_row, row_self, row_row, b1, b2]; done))⟩
theorem ct_X8_cut {ad : Nat → Nat → Nat → Nat} {o : wd_S} {n m : Nat} (G : cg (o.1 8) n m) {l s : Nat} (hl : l < 5) (hs : s < 16) (hh : o.1 8 (101 + 8 * s + 1) = nI l) : CT ad MX8_cut [.ref (ad 14 0 0), .int (nI s)] o (RT (some (.int (mf_cut (o.1 8) l s))) o) := by
  obtain ⟨g1, g2, g3, g4, g5, g6⟩ := id G
  refine CT.of (L := [some (.ref (ad 14 0 0)), some (.int (nI s)), none]) rfl rfl (by decide) (Nat.le_of_ble_eq_true rfl) rfl ?_
  refine aw_aload_n (x := ad 14 0 0) rfl dX8_cut_0 ?_
  refine aw_iload_n (x := (nI s)) rfl dX8_cut_1 ?_
  refine aw_iconst (v := 0) (by decide) dX8_cut_2 ?_
  refine aw_rV (As := [.int (nI s), .int 0]) (S := []) (v := some (.int (nI l))) (o2 := o) (RTv (ct_X8_its (s := s) (w := 0) (by omega) (by decide)) hh) (mm_fit_of cbX8_its (by decide) (by decide)) wq949 cvX8_its wv14 rfl rfl rfl (Nat.le_of_ble_eq_true rfl) (by decide) (by decide) rfl dX8_cut_3 ?_
  refine aw_istore_n (L2 := [some (.ref (ad 14 0 0)), some (.int (nI s)), some (.int (nI l))]) (by decide) rfl rfl dX8_cut_6 ?_
  refine aw_aload_n (x := ad 14 0 0) rfl dX8_cut_7 ?_
  refine aw_iload_n (x := (nI l)) rfl dX8_cut_8 ?_
  refine aw_bipush (v := 6) (by decide) dX8_cut_9 ?_
  refine aw_rV (As := [.int (nI l), .int 6]) (S := []) (v := some (.int (o.1 8 (20 * l + 7)))) (o2 := o) (ct_X8_of (l := l) (w := 6) (by omega) (by decide)) (mm_fit_of cbX8_of (by decide) (by decide)) wq969 cvX8_of wv14 rfl rfl rfl (Nat.le_of_ble_eq_true rfl) (by decide) (by decide) rfl dX8_cut_11 ?_
  refine aw_iconst (v := (-1)) (by decide) dX8_cut_14 ?_
  refine aw_icmp_eq (tgt := 49) (by decide) dX8_cut_15 (fun b1 => ?_) (fun b1 => ?_)
  · skip
    refine aw_iconst (v := 0) (by decide) dX8_cut_49 ?_
    exact aw_zret rfl (by decide) (by decide) (by decide) dX8_cut_50 ⟨by (first | with_reducible rfl | (simp [mf_cut, oI, mR, wd_w_row, row_self, row_row, b1]; done) | (simp_all [mf_cut, oI, mR, wd_w_row, row_self, row_row, b1]; done)), by (first | with_reducible rfl | (simp [mf_cut, oI, mR, wd_w_row, row_self, row_row, b1]; done) | (simp_all [mf_cut, oI, mR, wd_w_row, row_self, row_row, b1]; done))⟩
  · skip
    refine aw_aload_n (x := ad 14 0 0) rfl dX8_cut_18 ?_
    refine aw_iload_n (x := (nI l)) rfl dX8_cut_19 ?_
    refine aw_bipush (v := 7) (by decide) dX8_cut_20 ?_
    refine aw_rV (As := [.int (nI l), .int 7]) (S := []) (v := some (.int (o.1 8 (20 * l + 8)))) (o2 := o) (ct_X8_of (l := l) (w := 7) (by omega) (by decide)) (mm_fit_of cbX8_of (by decide) (by decide)) wq969 cvX8_of wv14 rfl rfl rfl (Nat.le_of_ble_eq_true rfl) (by decide) (by decide) rfl dX8_cut_22 ?_
    refine aw_iconst (v := 1) (by decide) dX8_cut_25 ?_
    refine aw_icmp_eq (tgt := 45) (by decide) dX8_cut_26 (fun b2 => ?_) (fun b2 => ?_)
    · skip
      refine aw_iconst (v := 1) (by decide) dX8_cut_45 ?_
      refine aw_goto (tgt := 50) (by decide) dX8_cut_46 ?_
      exact aw_zret rfl (by decide) (by decide) (by decide) dX8_cut_50 ⟨by (first | with_reducible rfl | (simp [mf_cut, oI, mR, wd_w_row, row_self, row_row, b1, b2]; done) | (simp_all [mf_cut, oI, mR, wd_w_row, row_self, row_row, b1, b2]; done)), by (first | with_reducible rfl | (simp [mf_cut, oI, mR, wd_w_row, row_self, row_row, b1, b2]; done) | (simp_all [mf_cut, oI, mR, wd_w_row, row_self, row_row, b1, b2]; done))⟩
    · skip
      refine aw_aload_n (x := ad 14 0 0) rfl dX8_cut_29 ?_
      refine aw_iload_n (x := (nI s)) rfl dX8_cut_30 ?_
      refine aw_iconst (v := 1) (by decide) dX8_cut_31 ?_
      refine aw_rV (As := [.int (nI s), .int 1]) (S := []) (v := some (.int (o.1 8 (101 + 8 * s + 2)))) (o2 := o) (ct_X8_its (s := s) (w := 1) (by omega) (by decide)) (mm_fit_of cbX8_its (by decide) (by decide)) wq949 cvX8_its wv14 rfl rfl rfl (Nat.le_of_ble_eq_true rfl) (by decide) (by decide) rfl dX8_cut_32 ?_
      refine aw_aload_n (x := ad 14 0 0) rfl dX8_cut_35 ?_
      refine aw_iload_n (x := (nI l)) rfl dX8_cut_36 ?_
      refine aw_bipush (v := 6) (by decide) dX8_cut_37 ?_
      refine aw_rV (As := [.int (nI l), .int 6]) (S := [.int (o.1 8 (101 + 8 * s + 2))]) (v := some (.int (o.1 8 (20 * l + 7)))) (o2 := o) (ct_X8_of (l := l) (w := 6) (by omega) (by decide)) (mm_fit_of cbX8_of (by decide) (by decide)) wq969 cvX8_of wv14 rfl rfl rfl (Nat.le_of_ble_eq_true rfl) (by decide) (by decide) rfl dX8_cut_39 ?_
      refine aw_icmp_lt (tgt := 49) (by decide) dX8_cut_42 (fun b3 => ?_) (fun b3 => ?_)
      · skip
        refine aw_iconst (v := 0) (by decide) dX8_cut_49 ?_
        exact aw_zret rfl (by decide) (by decide) (by decide) dX8_cut_50 ⟨by (first | with_reducible rfl | (simp [mf_cut, oI, mR, wd_w_row, row_self, row_row, b1, b2, b3]; done) | (simp_all [mf_cut, oI, mR, wd_w_row, row_self, row_row, b1, b2, b3]; done)), by (first | with_reducible rfl | (simp [mf_cut, oI, mR, wd_w_row, row_self, row_row, b1, b2, b3]; done) | (simp_all [mf_cut, oI, mR, wd_w_row, row_self, row_row, b1, b2, b3]; done))⟩
      · skip
        refine aw_iconst (v := 1) (by decide) dX8_cut_45 ?_
        refine aw_goto (tgt := 50) (by decide) dX8_cut_46 ?_
        exact aw_zret rfl (by decide) (by decide) (by decide) dX8_cut_50 ⟨by (first | with_reducible rfl | (simp [mf_cut, oI, mR, wd_w_row, row_self, row_row, b1, b2, b3]; done) | (simp_all [mf_cut, oI, mR, wd_w_row, row_self, row_row, b1, b2, b3]; done)), by (first | with_reducible rfl | (simp [mf_cut, oI, mR, wd_w_row, row_self, row_row, b1, b2, b3]; done) | (simp_all [mf_cut, oI, mR, wd_w_row, row_self, row_row, b1, b2, b3]; done))⟩
theorem ct_X8_state {ad : Nat → Nat → Nat → Nat} {o : wd_S} {n m : Nat} (G : cg (o.1 8) n m) {l s : Nat} (hl : l < 5) (hs : s < 16) (hh : o.1 8 (101 + 8 * s + 1) = nI l) : CT ad MX8_state [.ref (ad 14 0 0), .int (nI s)] o (RT (some (.int (mf_state (o.1 8) l s))) o) := by
  obtain ⟨g1, g2, g3, g4, g5, g6⟩ := id G
  refine CT.of (L := [some (.ref (ad 14 0 0)), some (.int (nI s))]) rfl rfl (by decide) (Nat.le_of_ble_eq_true rfl) rfl ?_
  refine aw_aload_n (x := ad 14 0 0) rfl dX8_state_0 ?_
  refine aw_iload_n (x := (nI s)) rfl dX8_state_1 ?_
  refine aw_iconst (v := 5) (by decide) dX8_state_2 ?_
  refine aw_rV (As := [.int (nI s), .int 5]) (S := []) (v := some (.int (o.1 8 (101 + 8 * s + 6)))) (o2 := o) (ct_X8_its (s := s) (w := 5) (by omega) (by decide)) (mm_fit_of cbX8_its (by decide) (by decide)) wq949 cvX8_its wv14 rfl rfl rfl (Nat.le_of_ble_eq_true rfl) (by decide) (by decide) rfl dX8_state_3 ?_
  refine aw_if_ne (tgt := 11) (by decide) dX8_state_6 (fun b1 => ?_) (fun b1 => ?_)
  · skip
    refine aw_aload_n (x := ad 14 0 0) rfl dX8_state_11 ?_
    refine aw_iload_n (x := (nI s)) rfl dX8_state_12 ?_
    refine aw_rV (As := [.int (nI s)]) (S := []) (v := some (.int (mf_cut (o.1 8) l s))) (o2 := o) (ct_X8_cut G hl (by omega) hh) (mm_fit_of cbX8_cut (by decide) (by decide)) wq993 cvX8_cut wv14 rfl rfl rfl (Nat.le_of_ble_eq_true rfl) (by decide) (by decide) rfl dX8_state_13 ?_
    refine aw_if_eq (tgt := 23) (by decide) dX8_state_16 (fun b2 => ?_) (fun b2 => ?_)
    · skip
      refine aw_aload_n (x := ad 14 0 0) rfl dX8_state_23 ?_
      refine aw_iload_n (x := (nI s)) rfl dX8_state_24 ?_
      refine aw_bipush (v := 6) (by decide) dX8_state_25 ?_
      refine aw_rV (As := [.int (nI s), .int 6]) (S := []) (v := some (.int (o.1 8 (101 + 8 * s + 7)))) (o2 := o) (ct_X8_its (s := s) (w := 6) (by omega) (by decide)) (mm_fit_of cbX8_its (by decide) (by decide)) wq949 cvX8_its wv14 rfl rfl rfl (Nat.le_of_ble_eq_true rfl) (by decide) (by decide) rfl dX8_state_27 ?_
      refine aw_if_le (tgt := 43) (by decide) dX8_state_30 (fun b3 => ?_) (fun b3 => ?_)
      · skip
        refine aw_iconst (v := 2) (by decide) dX8_state_43 ?_
        exact aw_iret rfl (by decide) (by decide) dX8_state_44 ⟨by (first | with_reducible rfl | (simp [mf_state, oI, mR, wd_w_row, row_self, row_row, b1, b2, b3]; done) | (simp_all [mf_state, oI, mR, wd_w_row, row_self, row_row, b1, b2, b3]; done)), by (first | with_reducible rfl | (simp [mf_state, oI, mR, wd_w_row, row_self, row_row, b1, b2, b3]; done) | (simp_all [mf_state, oI, mR, wd_w_row, row_self, row_row, b1, b2, b3]; done))⟩
      · skip
        refine aw_aload_n (x := ad 14 0 0) rfl dX8_state_33 ?_
        refine aw_iload_n (x := (nI s)) rfl dX8_state_34 ?_
        refine aw_bipush (v := 6) (by decide) dX8_state_35 ?_
        refine aw_rV (As := [.int (nI s), .int 6]) (S := []) (v := some (.int (o.1 8 (101 + 8 * s + 7)))) (o2 := o) (ct_X8_its (s := s) (w := 6) (by omega) (by decide)) (mm_fit_of cbX8_its (by decide) (by decide)) wq949 cvX8_its wv14 rfl rfl rfl (Nat.le_of_ble_eq_true rfl) (by decide) (by decide) rfl dX8_state_37 ?_
        refine aw_goto (tgt := 44) (by decide) dX8_state_40 ?_
        exact aw_iret rfl (by decide) (by decide) dX8_state_44 ⟨by (first | with_reducible rfl | (simp [mf_state, oI, mR, wd_w_row, row_self, row_row, b1, b2, b3]; done) | (simp_all [mf_state, oI, mR, wd_w_row, row_self, row_row, b1, b2, b3]; done)), by (first | with_reducible rfl | (simp [mf_state, oI, mR, wd_w_row, row_self, row_row, b1, b2, b3]; done) | (simp_all [mf_state, oI, mR, wd_w_row, row_self, row_row, b1, b2, b3]; done))⟩
    · skip
      refine aw_iconst (v := 1) (by decide) dX8_state_19 ?_
      refine aw_goto (tgt := 44) (by decide) dX8_state_20 ?_
      exact aw_iret rfl (by decide) (by decide) dX8_state_44 ⟨by (first | with_reducible rfl | (simp [mf_state, oI, mR, wd_w_row, row_self, row_row, b1, b2]; done) | (simp_all [mf_state, oI, mR, wd_w_row, row_self, row_row, b1, b2]; done)), by (first | with_reducible rfl | (simp [mf_state, oI, mR, wd_w_row, row_self, row_row, b1, b2]; done) | (simp_all [mf_state, oI, mR, wd_w_row, row_self, row_row, b1, b2]; done))⟩
  · skip
    refine aw_iconst (v := 0) (by decide) dX8_state_9 ?_
    exact aw_iret rfl (by decide) (by decide) dX8_state_10 ⟨by (first | with_reducible rfl | (simp [mf_state, oI, mR, wd_w_row, row_self, row_row, b1]; done) | (simp_all [mf_state, oI, mR, wd_w_row, row_self, row_row, b1]; done)), by (first | with_reducible rfl | (simp [mf_state, oI, mR, wd_w_row, row_self, row_row, b1]; done) | (simp_all [mf_state, oI, mR, wd_w_row, row_self, row_row, b1]; done))⟩
theorem ct_X8_told_0 {ad : Nat → Nat → Nat → Nat} {o : wd_S} {n m : Nat} (G : cg (o.1 8) n m) {l s : Nat} (hl : l < 5) (hs : s < 16) (hh : o.1 8 (101 + 8 * s + 1) = nI l) : CT ad MX8_told [.ref (ad 14 0 0), .int (nI s), .int 0] o (RT (some (.int (mf_told (o.1 8) l s 0))) o) := by
  obtain ⟨g1, g2, g3, g4, g5, g6⟩ := id G
  refine CT.of (L := [some (.ref (ad 14 0 0)), some (.int (nI s)), some (.int 0)]) rfl rfl (by decide) (Nat.le_of_ble_eq_true rfl) rfl ?_
  refine aw_iload_n (x := 0) rfl dX8_told_0 ?_
  refine aw_tableIn (off := 43) (tgt := 44) (by decide) (by decide) (by decide) (by decide) dX8_told_1 ?_
  refine aw_aload_n (x := ad 14 0 0) rfl dX8_told_44 ?_
  refine aw_iload_n (x := (nI s)) rfl dX8_told_45 ?_
  refine aw_iconst (v := 2) (by decide) dX8_told_46 ?_
  refine aw_iload_n (x := 0) rfl dX8_told_47 ?_
  refine aw_iaddz (z := 2) (by decide) dX8_told_48 ?_
  refine aw_rV (As := [.int (nI s), .int 2]) (S := []) (v := some (.int (o.1 8 (101 + 8 * s + 3)))) (o2 := o) (ct_X8_its (s := s) (w := 2) (by omega) (by decide)) (mm_fit_of cbX8_its (by decide) (by decide)) wq949 cvX8_its wv14 rfl rfl rfl (Nat.le_of_ble_eq_true rfl) (by decide) (by decide) rfl dX8_told_49 ?_
  exact aw_iret rfl (by decide) (by decide) dX8_told_52 ⟨by (first | with_reducible rfl | (simp [mf_told, oI, mR, wd_w_row, row_self, row_row]; done) | (simp_all [mf_told, oI, mR, wd_w_row, row_self, row_row]; done)), by (first | with_reducible rfl | (simp [mf_told, oI, mR, wd_w_row, row_self, row_row]; done) | (simp_all [mf_told, oI, mR, wd_w_row, row_self, row_row]; done))⟩
theorem ct_X8_told_1 {ad : Nat → Nat → Nat → Nat} {o : wd_S} {n m : Nat} (G : cg (o.1 8) n m) {l s : Nat} (hl : l < 5) (hs : s < 16) (hh : o.1 8 (101 + 8 * s + 1) = nI l) : CT ad MX8_told [.ref (ad 14 0 0), .int (nI s), .int 1] o (RT (some (.int (mf_told (o.1 8) l s 1))) o) := by
  obtain ⟨g1, g2, g3, g4, g5, g6⟩ := id G
  refine CT.of (L := [some (.ref (ad 14 0 0)), some (.int (nI s)), some (.int 1)]) rfl rfl (by decide) (Nat.le_of_ble_eq_true rfl) rfl ?_
  refine aw_iload_n (x := 1) rfl dX8_told_0 ?_
  refine aw_tableIn (off := 43) (tgt := 44) (by decide) (by decide) (by decide) (by decide) dX8_told_1 ?_
  refine aw_aload_n (x := ad 14 0 0) rfl dX8_told_44 ?_
  refine aw_iload_n (x := (nI s)) rfl dX8_told_45 ?_
  refine aw_iconst (v := 2) (by decide) dX8_told_46 ?_
  refine aw_iload_n (x := 1) rfl dX8_told_47 ?_
  refine aw_iaddz (z := 3) (by decide) dX8_told_48 ?_
  refine aw_rV (As := [.int (nI s), .int 3]) (S := []) (v := some (.int (o.1 8 (101 + 8 * s + 4)))) (o2 := o) (ct_X8_its (s := s) (w := 3) (by omega) (by decide)) (mm_fit_of cbX8_its (by decide) (by decide)) wq949 cvX8_its wv14 rfl rfl rfl (Nat.le_of_ble_eq_true rfl) (by decide) (by decide) rfl dX8_told_49 ?_
  exact aw_iret rfl (by decide) (by decide) dX8_told_52 ⟨by (first | with_reducible rfl | (simp [mf_told, oI, mR, wd_w_row, row_self, row_row]; done) | (simp_all [mf_told, oI, mR, wd_w_row, row_self, row_row]; done)), by (first | with_reducible rfl | (simp [mf_told, oI, mR, wd_w_row, row_self, row_row]; done) | (simp_all [mf_told, oI, mR, wd_w_row, row_self, row_row]; done))⟩
theorem ct_X8_told_2 {ad : Nat → Nat → Nat → Nat} {o : wd_S} {n m : Nat} (G : cg (o.1 8) n m) {l s : Nat} (hl : l < 5) (hs : s < 16) (hh : o.1 8 (101 + 8 * s + 1) = nI l) : CT ad MX8_told [.ref (ad 14 0 0), .int (nI s), .int 2] o (RT (some (.int (mf_told (o.1 8) l s 2))) o) := by
  obtain ⟨g1, g2, g3, g4, g5, g6⟩ := id G
  refine CT.of (L := [some (.ref (ad 14 0 0)), some (.int (nI s)), some (.int 2)]) rfl rfl (by decide) (Nat.le_of_ble_eq_true rfl) rfl ?_
  refine aw_iload_n (x := 2) rfl dX8_told_0 ?_
  refine aw_tableIn (off := 43) (tgt := 44) (by decide) (by decide) (by decide) (by decide) dX8_told_1 ?_
  refine aw_aload_n (x := ad 14 0 0) rfl dX8_told_44 ?_
  refine aw_iload_n (x := (nI s)) rfl dX8_told_45 ?_
  refine aw_iconst (v := 2) (by decide) dX8_told_46 ?_
  refine aw_iload_n (x := 2) rfl dX8_told_47 ?_
  refine aw_iaddz (z := 4) (by decide) dX8_told_48 ?_
  refine aw_rV (As := [.int (nI s), .int 4]) (S := []) (v := some (.int (o.1 8 (101 + 8 * s + 5)))) (o2 := o) (ct_X8_its (s := s) (w := 4) (by omega) (by decide)) (mm_fit_of cbX8_its (by decide) (by decide)) wq949 cvX8_its wv14 rfl rfl rfl (Nat.le_of_ble_eq_true rfl) (by decide) (by decide) rfl dX8_told_49 ?_
  exact aw_iret rfl (by decide) (by decide) dX8_told_52 ⟨by (first | with_reducible rfl | (simp [mf_told, oI, mR, wd_w_row, row_self, row_row]; done) | (simp_all [mf_told, oI, mR, wd_w_row, row_self, row_row]; done)), by (first | with_reducible rfl | (simp [mf_told, oI, mR, wd_w_row, row_self, row_row]; done) | (simp_all [mf_told, oI, mR, wd_w_row, row_self, row_row]; done))⟩
theorem ct_X8_told_3 {ad : Nat → Nat → Nat → Nat} {o : wd_S} {n m : Nat} (G : cg (o.1 8) n m) {l s : Nat} (hl : l < 5) (hs : s < 16) (hh : o.1 8 (101 + 8 * s + 1) = nI l) : CT ad MX8_told [.ref (ad 14 0 0), .int (nI s), .int 3] o (RT (some (.int (mf_told (o.1 8) l s 3))) o) := by
  obtain ⟨g1, g2, g3, g4, g5, g6⟩ := id G
  refine CT.of (L := [some (.ref (ad 14 0 0)), some (.int (nI s)), some (.int 3)]) rfl rfl (by decide) (Nat.le_of_ble_eq_true rfl) rfl ?_
  refine aw_iload_n (x := 3) rfl dX8_told_0 ?_
  refine aw_tableIn (off := 52) (tgt := 53) (by decide) (by decide) (by decide) (by decide) dX8_told_1 ?_
  refine aw_aload_n (x := ad 14 0 0) rfl dX8_told_53 ?_
  refine aw_iload_n (x := (nI s)) rfl dX8_told_54 ?_
  refine aw_iconst (v := 0) (by decide) dX8_told_55 ?_
  refine aw_rV (As := [.int (nI s), .int 0]) (S := []) (v := some (.int (nI l))) (o2 := o) (RTv (ct_X8_its (s := s) (w := 0) (by omega) (by decide)) hh) (mm_fit_of cbX8_its (by decide) (by decide)) wq949 cvX8_its wv14 rfl rfl rfl (Nat.le_of_ble_eq_true rfl) (by decide) (by decide) rfl dX8_told_56 ?_
  exact aw_iret rfl (by decide) (by decide) dX8_told_59 ⟨by (first | with_reducible rfl | (simp [mf_told, oI, mR, wd_w_row, row_self, row_row]; done) | (simp_all [mf_told, oI, mR, wd_w_row, row_self, row_row]; done)), by (first | with_reducible rfl | (simp [mf_told, oI, mR, wd_w_row, row_self, row_row]; done) | (simp_all [mf_told, oI, mR, wd_w_row, row_self, row_row]; done))⟩
theorem ct_X8_told_4 {ad : Nat → Nat → Nat → Nat} {o : wd_S} {n m : Nat} (G : cg (o.1 8) n m) {l s : Nat} (hl : l < 5) (hs : s < 16) (hh : o.1 8 (101 + 8 * s + 1) = nI l) : CT ad MX8_told [.ref (ad 14 0 0), .int (nI s), .int 4] o (RT (some (.int (mf_told (o.1 8) l s 4))) o) := by
  obtain ⟨g1, g2, g3, g4, g5, g6⟩ := id G
  refine CT.of (L := [some (.ref (ad 14 0 0)), some (.int (nI s)), some (.int 4)]) rfl rfl (by decide) (Nat.le_of_ble_eq_true rfl) rfl ?_
  refine aw_iload_n (x := 4) rfl dX8_told_0 ?_
  refine aw_tableIn (off := 59) (tgt := 60) (by decide) (by decide) (by decide) (by decide) dX8_told_1 ?_
  refine aw_aload_n (x := ad 14 0 0) rfl dX8_told_60 ?_
  refine aw_iload_n (x := (nI s)) rfl dX8_told_61 ?_
  refine aw_iconst (v := 1) (by decide) dX8_told_62 ?_
  refine aw_rV (As := [.int (nI s), .int 1]) (S := []) (v := some (.int (o.1 8 (101 + 8 * s + 2)))) (o2 := o) (ct_X8_its (s := s) (w := 1) (by omega) (by decide)) (mm_fit_of cbX8_its (by decide) (by decide)) wq949 cvX8_its wv14 rfl rfl rfl (Nat.le_of_ble_eq_true rfl) (by decide) (by decide) rfl dX8_told_63 ?_
  exact aw_iret rfl (by decide) (by decide) dX8_told_66 ⟨by (first | with_reducible rfl | (simp [mf_told, oI, mR, wd_w_row, row_self, row_row]; done) | (simp_all [mf_told, oI, mR, wd_w_row, row_self, row_row]; done)), by (first | with_reducible rfl | (simp [mf_told, oI, mR, wd_w_row, row_self, row_row]; done) | (simp_all [mf_told, oI, mR, wd_w_row, row_self, row_row]; done))⟩
theorem ct_X8_told_5 {ad : Nat → Nat → Nat → Nat} {o : wd_S} {n m : Nat} (G : cg (o.1 8) n m) {l s : Nat} (hl : l < 5) (hs : s < 16) (hh : o.1 8 (101 + 8 * s + 1) = nI l) : CT ad MX8_told [.ref (ad 14 0 0), .int (nI s), .int 5] o (RT (some (.int (mf_told (o.1 8) l s 5))) o) := by
  obtain ⟨g1, g2, g3, g4, g5, g6⟩ := id G
  refine CT.of (L := [some (.ref (ad 14 0 0)), some (.int (nI s)), some (.int 5)]) rfl rfl (by decide) (Nat.le_of_ble_eq_true rfl) rfl ?_
  refine aw_iload_n (x := 5) rfl dX8_told_0 ?_
  refine aw_tableIn (off := 66) (tgt := 67) (by decide) (by decide) (by decide) (by decide) dX8_told_1 ?_
  refine aw_aload_n (x := ad 14 0 0) rfl dX8_told_67 ?_
  refine aw_iload_n (x := (nI s)) rfl dX8_told_68 ?_
  refine aw_iconst (v := 5) (by decide) dX8_told_69 ?_
  refine aw_rV (As := [.int (nI s), .int 5]) (S := []) (v := some (.int (o.1 8 (101 + 8 * s + 6)))) (o2 := o) (ct_X8_its (s := s) (w := 5) (by omega) (by decide)) (mm_fit_of cbX8_its (by decide) (by decide)) wq949 cvX8_its wv14 rfl rfl rfl (Nat.le_of_ble_eq_true rfl) (by decide) (by decide) rfl dX8_told_70 ?_
  exact aw_iret rfl (by decide) (by decide) dX8_told_73 ⟨by (first | with_reducible rfl | (simp [mf_told, oI, mR, wd_w_row, row_self, row_row]; done) | (simp_all [mf_told, oI, mR, wd_w_row, row_self, row_row]; done)), by (first | with_reducible rfl | (simp [mf_told, oI, mR, wd_w_row, row_self, row_row]; done) | (simp_all [mf_told, oI, mR, wd_w_row, row_self, row_row]; done))⟩
theorem ct_X8_told_6 {ad : Nat → Nat → Nat → Nat} {o : wd_S} {n m : Nat} (G : cg (o.1 8) n m) {l s : Nat} (hl : l < 5) (hs : s < 16) (hh : o.1 8 (101 + 8 * s + 1) = nI l) : CT ad MX8_told [.ref (ad 14 0 0), .int (nI s), .int 6] o (RT (some (.int (mf_told (o.1 8) l s 6))) o) := by
  obtain ⟨g1, g2, g3, g4, g5, g6⟩ := id G
  refine CT.of (L := [some (.ref (ad 14 0 0)), some (.int (nI s)), some (.int 6)]) rfl rfl (by decide) (Nat.le_of_ble_eq_true rfl) rfl ?_
  refine aw_iload_n (x := 6) rfl dX8_told_0 ?_
  refine aw_tableIn (off := 73) (tgt := 74) (by decide) (by decide) (by decide) (by decide) dX8_told_1 ?_
  refine aw_aload_n (x := ad 14 0 0) rfl dX8_told_74 ?_
  refine aw_iload_n (x := (nI s)) rfl dX8_told_75 ?_
  refine aw_rV (As := [.int (nI s)]) (S := []) (v := some (.int (mf_state (o.1 8) l s))) (o2 := o) (ct_X8_state G hl hs hh) (mm_fit_of cbX8_state (by decide) (by decide)) wq989 cvX8_state wv14 rfl rfl rfl (Nat.le_of_ble_eq_true rfl) (by decide) (by decide) rfl dX8_told_76 ?_
  exact aw_iret rfl (by decide) (by decide) dX8_told_79 ⟨by (first | with_reducible rfl | (simp [mf_told, oI, mR, wd_w_row, row_self, row_row]; done) | (simp_all [mf_told, oI, mR, wd_w_row, row_self, row_row]; done)), by (first | with_reducible rfl | (simp [mf_told, oI, mR, wd_w_row, row_self, row_row]; done) | (simp_all [mf_told, oI, mR, wd_w_row, row_self, row_row]; done))⟩
theorem ct_X8_told_7 {ad : Nat → Nat → Nat → Nat} {o : wd_S} {n m : Nat} (G : cg (o.1 8) n m) {l s : Nat} (hl : l < 5) (hs : s < 16) (hh : o.1 8 (101 + 8 * s + 1) = nI l) : CT ad MX8_told [.ref (ad 14 0 0), .int (nI s), .int 7] o (RT (some (.int (mf_told (o.1 8) l s 7))) o) := by
  obtain ⟨g1, g2, g3, g4, g5, g6⟩ := id G
  refine CT.of (L := [some (.ref (ad 14 0 0)), some (.int (nI s)), some (.int 7)]) rfl rfl (by decide) (Nat.le_of_ble_eq_true rfl) rfl ?_
  refine aw_iload_n (x := 7) rfl dX8_told_0 ?_
  refine aw_tableOut (tgt := 80) (by decide) (by decide) dX8_told_1 ?_
  refine aw_aload_n (x := ad 14 0 0) rfl dX8_told_80 ?_
  refine aw_iload_n (x := (nI s)) rfl dX8_told_81 ?_
  refine aw_bipush (v := 7) (by decide) dX8_told_82 ?_
  refine aw_rV (As := [.int (nI s), .int 7]) (S := []) (v := some (.int (o.1 8 (101 + 8 * s + 8)))) (o2 := o) (ct_X8_its (s := s) (w := 7) (by omega) (by decide)) (mm_fit_of cbX8_its (by decide) (by decide)) wq949 cvX8_its wv14 rfl rfl rfl (Nat.le_of_ble_eq_true rfl) (by decide) (by decide) rfl dX8_told_84 ?_
  exact aw_iret rfl (by decide) (by decide) dX8_told_87 ⟨by (first | with_reducible rfl | (simp [mf_told, oI, mR, wd_w_row, row_self, row_row]; done) | (simp_all [mf_told, oI, mR, wd_w_row, row_self, row_row]; done)), by (first | with_reducible rfl | (simp [mf_told, oI, mR, wd_w_row, row_self, row_row]; done) | (simp_all [mf_told, oI, mR, wd_w_row, row_self, row_row]; done))⟩
theorem ct_X8_tolds {ad : Nat → Nat → Nat → Nat} {o : wd_S} {n m : Nat} (G : cg (o.1 8) n m) {l s : Nat} (hl : l < 5) (hs : s < 16) (hh : o.1 8 (101 + 8 * s + 1) = nI l) {x : Int32} (h0 : ¬ x < 0) (h1 : x < 8) : CT ad MX8_told [.ref (ad 14 0 0), .int (nI s), .int x] o (RT (some (.int (mf_told (o.1 8) l s x))) o) := by
  rcases i32_s8 h0 (Int32.not_le.mpr h1) with rfl | rfl | rfl | rfl | rfl | rfl | rfl | rfl
  · exact ct_X8_told_0 G hl hs hh
  · exact ct_X8_told_1 G hl hs hh
  · exact ct_X8_told_2 G hl hs hh
  · exact ct_X8_told_3 G hl hs hh
  · exact ct_X8_told_4 G hl hs hh
  · exact ct_X8_told_5 G hl hs hh
  · exact ct_X8_told_6 G hl hs hh
  · exact ct_X8_told_7 G hl hs hh
theorem lp_X8_tl {ad : Nat → Nat → Nat → Nat} {o : wd_S} {n m : Nat} (G : cg (o.1 8) n m) {l : Nat} (hl : l < 5) : ∀ (k i : Nat) (a : Int32), i + k = m → AW ad MX8_toldLoop 18 [some (.ref (ad 14 0 0)), some (.int (nI l)), none, some (.int a), some (.int (nI i))] [] o 0 0 (RT (some (.int (a + sumF (mf_mem (o.1 8) l) (k) (i)))) o) := by
  obtain ⟨g1, g2, g3, g4, g5, g6⟩ := id G
  intro k
  induction k with
  | zero =>
    intro i a hk
    refine aw_iload (x := (nI i)) rfl dX8_toldLoop_18 ?_
    refine aw_aload_n (x := ad 14 0 0) rfl dX8_toldLoop_20 ?_
    refine aw_getr (q := (15, 0, 0)) wv14 rfl flX8_7 rfl rfl dX8_toldLoop_21 ?_
    refine aw_bipush (v := 101) (by decide) dX8_toldLoop_24 ?_
    refine aw_ild (x := 101) (q := (8, 101)) (y := nI m) (by decide) (wv15 (by decide)) rfl G.2.2.1 (Nat.le_of_ble_eq_true rfl) rfl dX8_toldLoop_26 ?_
    refine aw_icmp_ge (tgt := 55) (by decide) dX8_toldLoop_27 (fun _ => ?_) (fun z => absurd (nI_le (by omega) (by omega)) z)
    refine aw_iload_n (x := a) rfl dX8_toldLoop_55 ?_
    exact aw_iret rfl (by decide) (by decide) dX8_toldLoop_56 ⟨by first | rfl | (simp [sumF, mf_mem, mem]; done) | (simp_all [sumF, mf_mem, mem]; done), by first | rfl | (simp [sumF, mf_mem, mem]; done) | (simp_all [sumF, mf_mem, mem]; done)⟩
  | succ k ih =>
    intro i a hk
    refine aw_iload (x := (nI i)) rfl dX8_toldLoop_18 ?_
    refine aw_aload_n (x := ad 14 0 0) rfl dX8_toldLoop_20 ?_
    refine aw_getr (q := (15, 0, 0)) wv14 rfl flX8_7 rfl rfl dX8_toldLoop_21 ?_
    refine aw_bipush (v := 101) (by decide) dX8_toldLoop_24 ?_
    refine aw_ild (x := 101) (q := (8, 101)) (y := nI m) (by decide) (wv15 (by decide)) rfl G.2.2.1 (Nat.le_of_ble_eq_true rfl) rfl dX8_toldLoop_26 ?_
    refine aw_icmp_ge (tgt := 55) (by decide) dX8_toldLoop_27 (fun z => absurd z (nI_ge (by omega) (by omega))) (fun _ => ?_)
    refine aw_iload_n (x := a) rfl dX8_toldLoop_30 ?_
    refine aw_aload_n (x := ad 14 0 0) rfl dX8_toldLoop_31 ?_
    refine aw_iload (x := (nI i)) rfl dX8_toldLoop_32 ?_
    refine aw_iconst (v := 0) (by decide) dX8_toldLoop_34 ?_
    refine aw_rV (As := [.int (nI i), .int 0]) (S := [.int a]) (v := some (.int (o.1 8 (101 + 8 * i + 1)))) (o2 := o) (ct_X8_its (s := i) (w := 0) (by omega) (by decide)) (mm_fit_of cbX8_its (by decide) (by decide)) wq949 cvX8_its wv14 rfl rfl rfl (Nat.le_of_ble_eq_true rfl) (by decide) (by decide) rfl dX8_toldLoop_35 ?_
    refine aw_iload_n (x := (nI l)) rfl dX8_toldLoop_38 ?_
    refine aw_icmp_ne (tgt := 46) (by decide) dX8_toldLoop_39 (fun b1 => ?_) (fun b1 => ?_)
    · skip
      refine aw_iconst (v := 0) (by decide) dX8_toldLoop_46 ?_
      refine aw_iaddz (z := a + 0) rfl dX8_toldLoop_47 ?_
      refine aw_istore_n (L2 := [some (.ref (ad 14 0 0)), some (.int (nI l)), none, some (.int (a + 0)), some (.int (nI i))]) (by decide) rfl rfl dX8_toldLoop_48 ?_
      refine aw_iinc (n := 1) (x := (nI i)) (v := nI (i + 1)) (L2 := [some (.ref (ad 14 0 0)), some (.int (nI l)), none, some (.int (a + 0)), some (.int (nI (i + 1)))]) rfl (nI_1 i) (by decide) rfl rfl dX8_toldLoop_49 ?_
      refine aw_goto (tgt := 18) (by decide) dX8_toldLoop_52 ?_
      have e9 : (RT (some (.int (a + sumF (mf_mem (o.1 8) l) (k + 1) (i)))) o) = (RT (some (.int ((a + 0) + sumF (mf_mem (o.1 8) l) (k) (i + 1)))) o) := by first | (simp [sumF, mf_mem, sumF_acc, mem, b1]; done) | (simp_all [sumF, mf_mem, sumF_acc, mem, b1]; done)
      rw [e9]
      exact AW.locs (ih (i + 1) (a + 0) (by omega) ) (lsub_keep (lsub_keep (lsub_keep (lsub_keep (lsub_keep lsub_nil)))))
    · skip
      refine aw_iconst (v := 1) (by decide) dX8_toldLoop_42 ?_
      refine aw_goto (tgt := 47) (by decide) dX8_toldLoop_43 ?_
      refine aw_iaddz (z := a + 1) rfl dX8_toldLoop_47 ?_
      refine aw_istore_n (L2 := [some (.ref (ad 14 0 0)), some (.int (nI l)), none, some (.int (a + 1)), some (.int (nI i))]) (by decide) rfl rfl dX8_toldLoop_48 ?_
      refine aw_iinc (n := 1) (x := (nI i)) (v := nI (i + 1)) (L2 := [some (.ref (ad 14 0 0)), some (.int (nI l)), none, some (.int (a + 1)), some (.int (nI (i + 1)))]) rfl (nI_1 i) (by decide) rfl rfl dX8_toldLoop_49 ?_
      refine aw_goto (tgt := 18) (by decide) dX8_toldLoop_52 ?_
      have e9 : (RT (some (.int (a + sumF (mf_mem (o.1 8) l) (k + 1) (i)))) o) = (RT (some (.int ((a + 1) + sumF (mf_mem (o.1 8) l) (k) (i + 1)))) o) := by first | (simp [sumF, mf_mem, sumF_acc, mem, b1]; done) | (simp_all [sumF, mf_mem, sumF_acc, mem, b1]; done)
      rw [e9]
      exact AW.locs (ih (i + 1) (a + 1) (by omega) ) (lsub_keep (lsub_keep (lsub_keep (lsub_keep (lsub_keep lsub_nil)))))
theorem ct_X8_tl_0 {ad : Nat → Nat → Nat → Nat} {o : wd_S} {n m : Nat} (G : cg (o.1 8) n m) {l : Nat} (hl : l < 5) : CT ad MX8_toldLoop [.ref (ad 14 0 0), .int (nI l), .int 0] o (RT (some (.int (mf_tl (o.1 8) m l 0))) o) := by
  obtain ⟨g1, g2, g3, g4, g5, g6⟩ := id G
  refine CT.of (L := [some (.ref (ad 14 0 0)), some (.int (nI l)), some (.int 0), none, none]) rfl rfl (by decide) (Nat.le_of_ble_eq_true rfl) rfl ?_
  refine aw_iload_n (x := 0) rfl dX8_toldLoop_0 ?_
  refine aw_bipush (v := 8) (by decide) dX8_toldLoop_1 ?_
  refine aw_icmp_ge (tgt := 13) (by decide) dX8_toldLoop_3 (fun z => absurd z (by decide)) (fun _ => ?_)
  refine aw_aload_n (x := ad 14 0 0) rfl dX8_toldLoop_6 ?_
  refine aw_iload_n (x := (nI l)) rfl dX8_toldLoop_7 ?_
  refine aw_iload_n (x := 0) rfl dX8_toldLoop_8 ?_
  refine aw_rV (As := [.int (nI l), .int 0]) (S := []) (v := some (.int (o.1 8 (20 * l + 1)))) (o2 := o) (ct_X8_of (l := l) (w := 0) (by omega) (by decide)) (mm_fit_of cbX8_of (by decide) (by decide)) wq969 cvX8_of wv14 rfl rfl rfl (Nat.le_of_ble_eq_true rfl) (by decide) (by decide) rfl dX8_toldLoop_9 ?_
  exact aw_iret rfl (by decide) (by decide) dX8_toldLoop_12 ⟨by (first | with_reducible rfl | (simp [mf_tl, oI, mR, wd_w_row, row_self, row_row]; done) | (simp_all [mf_tl, oI, mR, wd_w_row, row_self, row_row]; done)), by (first | with_reducible rfl | (simp [mf_tl, oI, mR, wd_w_row, row_self, row_row]; done) | (simp_all [mf_tl, oI, mR, wd_w_row, row_self, row_row]; done))⟩
theorem ct_X8_tl_1 {ad : Nat → Nat → Nat → Nat} {o : wd_S} {n m : Nat} (G : cg (o.1 8) n m) {l : Nat} (hl : l < 5) : CT ad MX8_toldLoop [.ref (ad 14 0 0), .int (nI l), .int 1] o (RT (some (.int (mf_tl (o.1 8) m l 1))) o) := by
  obtain ⟨g1, g2, g3, g4, g5, g6⟩ := id G
  refine CT.of (L := [some (.ref (ad 14 0 0)), some (.int (nI l)), some (.int 1), none, none]) rfl rfl (by decide) (Nat.le_of_ble_eq_true rfl) rfl ?_
  refine aw_iload_n (x := 1) rfl dX8_toldLoop_0 ?_
  refine aw_bipush (v := 8) (by decide) dX8_toldLoop_1 ?_
  refine aw_icmp_ge (tgt := 13) (by decide) dX8_toldLoop_3 (fun z => absurd z (by decide)) (fun _ => ?_)
  refine aw_aload_n (x := ad 14 0 0) rfl dX8_toldLoop_6 ?_
  refine aw_iload_n (x := (nI l)) rfl dX8_toldLoop_7 ?_
  refine aw_iload_n (x := 1) rfl dX8_toldLoop_8 ?_
  refine aw_rV (As := [.int (nI l), .int 1]) (S := []) (v := some (.int (o.1 8 (20 * l + 2)))) (o2 := o) (ct_X8_of (l := l) (w := 1) (by omega) (by decide)) (mm_fit_of cbX8_of (by decide) (by decide)) wq969 cvX8_of wv14 rfl rfl rfl (Nat.le_of_ble_eq_true rfl) (by decide) (by decide) rfl dX8_toldLoop_9 ?_
  exact aw_iret rfl (by decide) (by decide) dX8_toldLoop_12 ⟨by (first | with_reducible rfl | (simp [mf_tl, oI, mR, wd_w_row, row_self, row_row]; done) | (simp_all [mf_tl, oI, mR, wd_w_row, row_self, row_row]; done)), by (first | with_reducible rfl | (simp [mf_tl, oI, mR, wd_w_row, row_self, row_row]; done) | (simp_all [mf_tl, oI, mR, wd_w_row, row_self, row_row]; done))⟩
theorem ct_X8_tl_2 {ad : Nat → Nat → Nat → Nat} {o : wd_S} {n m : Nat} (G : cg (o.1 8) n m) {l : Nat} (hl : l < 5) : CT ad MX8_toldLoop [.ref (ad 14 0 0), .int (nI l), .int 2] o (RT (some (.int (mf_tl (o.1 8) m l 2))) o) := by
  obtain ⟨g1, g2, g3, g4, g5, g6⟩ := id G
  refine CT.of (L := [some (.ref (ad 14 0 0)), some (.int (nI l)), some (.int 2), none, none]) rfl rfl (by decide) (Nat.le_of_ble_eq_true rfl) rfl ?_
  refine aw_iload_n (x := 2) rfl dX8_toldLoop_0 ?_
  refine aw_bipush (v := 8) (by decide) dX8_toldLoop_1 ?_
  refine aw_icmp_ge (tgt := 13) (by decide) dX8_toldLoop_3 (fun z => absurd z (by decide)) (fun _ => ?_)
  refine aw_aload_n (x := ad 14 0 0) rfl dX8_toldLoop_6 ?_
  refine aw_iload_n (x := (nI l)) rfl dX8_toldLoop_7 ?_
  refine aw_iload_n (x := 2) rfl dX8_toldLoop_8 ?_
  refine aw_rV (As := [.int (nI l), .int 2]) (S := []) (v := some (.int (o.1 8 (20 * l + 3)))) (o2 := o) (ct_X8_of (l := l) (w := 2) (by omega) (by decide)) (mm_fit_of cbX8_of (by decide) (by decide)) wq969 cvX8_of wv14 rfl rfl rfl (Nat.le_of_ble_eq_true rfl) (by decide) (by decide) rfl dX8_toldLoop_9 ?_
  exact aw_iret rfl (by decide) (by decide) dX8_toldLoop_12 ⟨by (first | with_reducible rfl | (simp [mf_tl, oI, mR, wd_w_row, row_self, row_row]; done) | (simp_all [mf_tl, oI, mR, wd_w_row, row_self, row_row]; done)), by (first | with_reducible rfl | (simp [mf_tl, oI, mR, wd_w_row, row_self, row_row]; done) | (simp_all [mf_tl, oI, mR, wd_w_row, row_self, row_row]; done))⟩
theorem ct_X8_tl_3 {ad : Nat → Nat → Nat → Nat} {o : wd_S} {n m : Nat} (G : cg (o.1 8) n m) {l : Nat} (hl : l < 5) : CT ad MX8_toldLoop [.ref (ad 14 0 0), .int (nI l), .int 3] o (RT (some (.int (mf_tl (o.1 8) m l 3))) o) := by
  obtain ⟨g1, g2, g3, g4, g5, g6⟩ := id G
  refine CT.of (L := [some (.ref (ad 14 0 0)), some (.int (nI l)), some (.int 3), none, none]) rfl rfl (by decide) (Nat.le_of_ble_eq_true rfl) rfl ?_
  refine aw_iload_n (x := 3) rfl dX8_toldLoop_0 ?_
  refine aw_bipush (v := 8) (by decide) dX8_toldLoop_1 ?_
  refine aw_icmp_ge (tgt := 13) (by decide) dX8_toldLoop_3 (fun z => absurd z (by decide)) (fun _ => ?_)
  refine aw_aload_n (x := ad 14 0 0) rfl dX8_toldLoop_6 ?_
  refine aw_iload_n (x := (nI l)) rfl dX8_toldLoop_7 ?_
  refine aw_iload_n (x := 3) rfl dX8_toldLoop_8 ?_
  refine aw_rV (As := [.int (nI l), .int 3]) (S := []) (v := some (.int (o.1 8 (20 * l + 4)))) (o2 := o) (ct_X8_of (l := l) (w := 3) (by omega) (by decide)) (mm_fit_of cbX8_of (by decide) (by decide)) wq969 cvX8_of wv14 rfl rfl rfl (Nat.le_of_ble_eq_true rfl) (by decide) (by decide) rfl dX8_toldLoop_9 ?_
  exact aw_iret rfl (by decide) (by decide) dX8_toldLoop_12 ⟨by (first | with_reducible rfl | (simp [mf_tl, oI, mR, wd_w_row, row_self, row_row]; done) | (simp_all [mf_tl, oI, mR, wd_w_row, row_self, row_row]; done)), by (first | with_reducible rfl | (simp [mf_tl, oI, mR, wd_w_row, row_self, row_row]; done) | (simp_all [mf_tl, oI, mR, wd_w_row, row_self, row_row]; done))⟩
theorem ct_X8_tl_4 {ad : Nat → Nat → Nat → Nat} {o : wd_S} {n m : Nat} (G : cg (o.1 8) n m) {l : Nat} (hl : l < 5) : CT ad MX8_toldLoop [.ref (ad 14 0 0), .int (nI l), .int 4] o (RT (some (.int (mf_tl (o.1 8) m l 4))) o) := by
  obtain ⟨g1, g2, g3, g4, g5, g6⟩ := id G
  refine CT.of (L := [some (.ref (ad 14 0 0)), some (.int (nI l)), some (.int 4), none, none]) rfl rfl (by decide) (Nat.le_of_ble_eq_true rfl) rfl ?_
  refine aw_iload_n (x := 4) rfl dX8_toldLoop_0 ?_
  refine aw_bipush (v := 8) (by decide) dX8_toldLoop_1 ?_
  refine aw_icmp_ge (tgt := 13) (by decide) dX8_toldLoop_3 (fun z => absurd z (by decide)) (fun _ => ?_)
  refine aw_aload_n (x := ad 14 0 0) rfl dX8_toldLoop_6 ?_
  refine aw_iload_n (x := (nI l)) rfl dX8_toldLoop_7 ?_
  refine aw_iload_n (x := 4) rfl dX8_toldLoop_8 ?_
  refine aw_rV (As := [.int (nI l), .int 4]) (S := []) (v := some (.int (o.1 8 (20 * l + 5)))) (o2 := o) (ct_X8_of (l := l) (w := 4) (by omega) (by decide)) (mm_fit_of cbX8_of (by decide) (by decide)) wq969 cvX8_of wv14 rfl rfl rfl (Nat.le_of_ble_eq_true rfl) (by decide) (by decide) rfl dX8_toldLoop_9 ?_
  exact aw_iret rfl (by decide) (by decide) dX8_toldLoop_12 ⟨by (first | with_reducible rfl | (simp [mf_tl, oI, mR, wd_w_row, row_self, row_row]; done) | (simp_all [mf_tl, oI, mR, wd_w_row, row_self, row_row]; done)), by (first | with_reducible rfl | (simp [mf_tl, oI, mR, wd_w_row, row_self, row_row]; done) | (simp_all [mf_tl, oI, mR, wd_w_row, row_self, row_row]; done))⟩
theorem ct_X8_tl_5 {ad : Nat → Nat → Nat → Nat} {o : wd_S} {n m : Nat} (G : cg (o.1 8) n m) {l : Nat} (hl : l < 5) : CT ad MX8_toldLoop [.ref (ad 14 0 0), .int (nI l), .int 5] o (RT (some (.int (mf_tl (o.1 8) m l 5))) o) := by
  obtain ⟨g1, g2, g3, g4, g5, g6⟩ := id G
  refine CT.of (L := [some (.ref (ad 14 0 0)), some (.int (nI l)), some (.int 5), none, none]) rfl rfl (by decide) (Nat.le_of_ble_eq_true rfl) rfl ?_
  refine aw_iload_n (x := 5) rfl dX8_toldLoop_0 ?_
  refine aw_bipush (v := 8) (by decide) dX8_toldLoop_1 ?_
  refine aw_icmp_ge (tgt := 13) (by decide) dX8_toldLoop_3 (fun z => absurd z (by decide)) (fun _ => ?_)
  refine aw_aload_n (x := ad 14 0 0) rfl dX8_toldLoop_6 ?_
  refine aw_iload_n (x := (nI l)) rfl dX8_toldLoop_7 ?_
  refine aw_iload_n (x := 5) rfl dX8_toldLoop_8 ?_
  refine aw_rV (As := [.int (nI l), .int 5]) (S := []) (v := some (.int (o.1 8 (20 * l + 6)))) (o2 := o) (ct_X8_of (l := l) (w := 5) (by omega) (by decide)) (mm_fit_of cbX8_of (by decide) (by decide)) wq969 cvX8_of wv14 rfl rfl rfl (Nat.le_of_ble_eq_true rfl) (by decide) (by decide) rfl dX8_toldLoop_9 ?_
  exact aw_iret rfl (by decide) (by decide) dX8_toldLoop_12 ⟨by (first | with_reducible rfl | (simp [mf_tl, oI, mR, wd_w_row, row_self, row_row]; done) | (simp_all [mf_tl, oI, mR, wd_w_row, row_self, row_row]; done)), by (first | with_reducible rfl | (simp [mf_tl, oI, mR, wd_w_row, row_self, row_row]; done) | (simp_all [mf_tl, oI, mR, wd_w_row, row_self, row_row]; done))⟩
theorem ct_X8_tl_6 {ad : Nat → Nat → Nat → Nat} {o : wd_S} {n m : Nat} (G : cg (o.1 8) n m) {l : Nat} (hl : l < 5) : CT ad MX8_toldLoop [.ref (ad 14 0 0), .int (nI l), .int 6] o (RT (some (.int (mf_tl (o.1 8) m l 6))) o) := by
  obtain ⟨g1, g2, g3, g4, g5, g6⟩ := id G
  refine CT.of (L := [some (.ref (ad 14 0 0)), some (.int (nI l)), some (.int 6), none, none]) rfl rfl (by decide) (Nat.le_of_ble_eq_true rfl) rfl ?_
  refine aw_iload_n (x := 6) rfl dX8_toldLoop_0 ?_
  refine aw_bipush (v := 8) (by decide) dX8_toldLoop_1 ?_
  refine aw_icmp_ge (tgt := 13) (by decide) dX8_toldLoop_3 (fun z => absurd z (by decide)) (fun _ => ?_)
  refine aw_aload_n (x := ad 14 0 0) rfl dX8_toldLoop_6 ?_
  refine aw_iload_n (x := (nI l)) rfl dX8_toldLoop_7 ?_
  refine aw_iload_n (x := 6) rfl dX8_toldLoop_8 ?_
  refine aw_rV (As := [.int (nI l), .int 6]) (S := []) (v := some (.int (o.1 8 (20 * l + 7)))) (o2 := o) (ct_X8_of (l := l) (w := 6) (by omega) (by decide)) (mm_fit_of cbX8_of (by decide) (by decide)) wq969 cvX8_of wv14 rfl rfl rfl (Nat.le_of_ble_eq_true rfl) (by decide) (by decide) rfl dX8_toldLoop_9 ?_
  exact aw_iret rfl (by decide) (by decide) dX8_toldLoop_12 ⟨by (first | with_reducible rfl | (simp [mf_tl, oI, mR, wd_w_row, row_self, row_row]; done) | (simp_all [mf_tl, oI, mR, wd_w_row, row_self, row_row]; done)), by (first | with_reducible rfl | (simp [mf_tl, oI, mR, wd_w_row, row_self, row_row]; done) | (simp_all [mf_tl, oI, mR, wd_w_row, row_self, row_row]; done))⟩
theorem ct_X8_tl_7 {ad : Nat → Nat → Nat → Nat} {o : wd_S} {n m : Nat} (G : cg (o.1 8) n m) {l : Nat} (hl : l < 5) : CT ad MX8_toldLoop [.ref (ad 14 0 0), .int (nI l), .int 7] o (RT (some (.int (mf_tl (o.1 8) m l 7))) o) := by
  obtain ⟨g1, g2, g3, g4, g5, g6⟩ := id G
  refine CT.of (L := [some (.ref (ad 14 0 0)), some (.int (nI l)), some (.int 7), none, none]) rfl rfl (by decide) (Nat.le_of_ble_eq_true rfl) rfl ?_
  refine aw_iload_n (x := 7) rfl dX8_toldLoop_0 ?_
  refine aw_bipush (v := 8) (by decide) dX8_toldLoop_1 ?_
  refine aw_icmp_ge (tgt := 13) (by decide) dX8_toldLoop_3 (fun z => absurd z (by decide)) (fun _ => ?_)
  refine aw_aload_n (x := ad 14 0 0) rfl dX8_toldLoop_6 ?_
  refine aw_iload_n (x := (nI l)) rfl dX8_toldLoop_7 ?_
  refine aw_iload_n (x := 7) rfl dX8_toldLoop_8 ?_
  refine aw_rV (As := [.int (nI l), .int 7]) (S := []) (v := some (.int (o.1 8 (20 * l + 8)))) (o2 := o) (ct_X8_of (l := l) (w := 7) (by omega) (by decide)) (mm_fit_of cbX8_of (by decide) (by decide)) wq969 cvX8_of wv14 rfl rfl rfl (Nat.le_of_ble_eq_true rfl) (by decide) (by decide) rfl dX8_toldLoop_9 ?_
  exact aw_iret rfl (by decide) (by decide) dX8_toldLoop_12 ⟨by (first | with_reducible rfl | (simp [mf_tl, oI, mR, wd_w_row, row_self, row_row]; done) | (simp_all [mf_tl, oI, mR, wd_w_row, row_self, row_row]; done)), by (first | with_reducible rfl | (simp [mf_tl, oI, mR, wd_w_row, row_self, row_row]; done) | (simp_all [mf_tl, oI, mR, wd_w_row, row_self, row_row]; done))⟩
theorem ct_X8_tl_8 {ad : Nat → Nat → Nat → Nat} {o : wd_S} {n m : Nat} (G : cg (o.1 8) n m) {l : Nat} (hl : l < 5) : CT ad MX8_toldLoop [.ref (ad 14 0 0), .int (nI l), .int 8] o (RT (some (.int (mf_tl (o.1 8) m l 8))) o) := by
  obtain ⟨g1, g2, g3, g4, g5, g6⟩ := id G
  refine CT.of (L := [some (.ref (ad 14 0 0)), some (.int (nI l)), some (.int 8), none, none]) rfl rfl (by decide) (Nat.le_of_ble_eq_true rfl) rfl ?_
  refine aw_iload_n (x := 8) rfl dX8_toldLoop_0 ?_
  refine aw_bipush (v := 8) (by decide) dX8_toldLoop_1 ?_
  refine aw_icmp_ge (tgt := 13) (by decide) dX8_toldLoop_3 (fun _ => ?_) (fun z => absurd z (by decide))
  refine aw_iconst (v := 0) (by decide) dX8_toldLoop_13 ?_
  refine aw_istore_n (L2 := [some (.ref (ad 14 0 0)), some (.int (nI l)), some (.int 8), some (.int 0), none]) (by decide) rfl rfl dX8_toldLoop_14 ?_
  refine aw_iconst (v := 0) (by decide) dX8_toldLoop_15 ?_
  refine aw_istore (L2 := [some (.ref (ad 14 0 0)), some (.int (nI l)), some (.int 8), some (.int 0), some (.int 0)]) (by decide) rfl rfl dX8_toldLoop_16 ?_
  exact AW.post (AW.locs (lp_X8_tl G hl m 0 0 (by omega)) (lsub_keep (lsub_keep (lsub_none (lsub_keep (lsub_keep lsub_nil)))))) (fun r o2 q => by simpa [mf_tl] using q)
theorem ct_X8_tls {ad : Nat → Nat → Nat → Nat} {o : wd_S} {n m : Nat} (G : cg (o.1 8) n m) {l : Nat} (hl : l < 5) {x : Int32} (h0 : ¬ x < 0) (h1 : x < 9) : CT ad MX8_toldLoop [.ref (ad 14 0 0), .int (nI l), .int x] o (RT (some (.int (mf_tl (o.1 8) m l x))) o) := by
  rcases i32_s9 h0 (Int32.not_le.mpr h1) with rfl | rfl | rfl | rfl | rfl | rfl | rfl | rfl | rfl
  · exact ct_X8_tl_0 G hl
  · exact ct_X8_tl_1 G hl
  · exact ct_X8_tl_2 G hl
  · exact ct_X8_tl_3 G hl
  · exact ct_X8_tl_4 G hl
  · exact ct_X8_tl_5 G hl
  · exact ct_X8_tl_6 G hl
  · exact ct_X8_tl_7 G hl
  · exact ct_X8_tl_8 G hl
def mf_comes (N : Nat → Int32) (l : Nat) (p f q e : Int32) : Nat → Int32 := upd (upd (upd (upd (upd (upd N (20 * l + 1) p) (20 * l + 2) 0) (20 * l + 3) f) (20 * l + 4) q) (20 * l + 5) e) (20 * l + 6) 0
theorem ct_X8_comes {ad : Nat → Nat → Nat → Nat} {o : wd_S}  {l : Nat} (hl : l < 5) {p f q e : Int32} : CT ad MX8_comes [.ref (ad 14 0 0), .int (nI l), .int p, .int f, .int q, .int e] o (RT none (wd_row o 8 (mf_comes (o.1 8) l p f q e))) := by
  refine CT.of (L := [some (.ref (ad 14 0 0)), some (.int (nI l)), some (.int p), some (.int f), some (.int q), some (.int e)]) rfl rfl (by decide) (Nat.le_of_ble_eq_true rfl) rfl ?_
  refine aw_aload_n (x := ad 14 0 0) rfl dX8_comes_0 ?_
  refine aw_iload_n (x := (nI l)) rfl dX8_comes_1 ?_
  refine aw_iconst (v := 0) (by decide) dX8_comes_2 ?_
  refine aw_iload_n (x := p) rfl dX8_comes_3 ?_
  refine aw_rV (As := [.int (nI l), .int 0, .int p]) (S := []) (v := none) (o2 := (wd_w o 8 (20 * l + 1) p)) (ct_X8_put (l := l) (w := 0) (by omega) (by decide)) (mm_fit_of cbX8_put (by decide) (by decide)) wq888 cvX8_put wv14 rfl rfl rfl (Nat.le_of_ble_eq_true rfl) (by decide) (by decide) rfl dX8_comes_4 ?_
  refine aw_aload_n (x := ad 14 0 0) rfl dX8_comes_7 ?_
  refine aw_iload_n (x := (nI l)) rfl dX8_comes_8 ?_
  refine aw_iconst (v := 1) (by decide) dX8_comes_9 ?_
  refine aw_iconst (v := 0) (by decide) dX8_comes_10 ?_
  refine aw_rV (As := [.int (nI l), .int 1, .int 0]) (S := []) (v := none) (o2 := (wd_w (wd_w o 8 (20 * l + 1) p) 8 (20 * l + 2) 0)) (ct_X8_put (l := l) (w := 1) (by omega) (by decide)) (mm_fit_of cbX8_put (by decide) (by decide)) wq888 cvX8_put wv14 rfl rfl rfl (Nat.le_of_ble_eq_true rfl) (by decide) (by decide) rfl dX8_comes_11 ?_
  refine aw_aload_n (x := ad 14 0 0) rfl dX8_comes_14 ?_
  refine aw_iload_n (x := (nI l)) rfl dX8_comes_15 ?_
  refine aw_iconst (v := 2) (by decide) dX8_comes_16 ?_
  refine aw_iload_n (x := f) rfl dX8_comes_17 ?_
  refine aw_rV (As := [.int (nI l), .int 2, .int f]) (S := []) (v := none) (o2 := (wd_w (wd_w (wd_w o 8 (20 * l + 1) p) 8 (20 * l + 2) 0) 8 (20 * l + 3) f)) (ct_X8_put (l := l) (w := 2) (by omega) (by decide)) (mm_fit_of cbX8_put (by decide) (by decide)) wq888 cvX8_put wv14 rfl rfl rfl (Nat.le_of_ble_eq_true rfl) (by decide) (by decide) rfl dX8_comes_18 ?_
  refine aw_aload_n (x := ad 14 0 0) rfl dX8_comes_21 ?_
  refine aw_iload_n (x := (nI l)) rfl dX8_comes_22 ?_
  refine aw_iconst (v := 3) (by decide) dX8_comes_23 ?_
  refine aw_iload (x := q) rfl dX8_comes_24 ?_
  refine aw_rV (As := [.int (nI l), .int 3, .int q]) (S := []) (v := none) (o2 := (wd_w (wd_w (wd_w (wd_w o 8 (20 * l + 1) p) 8 (20 * l + 2) 0) 8 (20 * l + 3) f) 8 (20 * l + 4) q)) (ct_X8_put (l := l) (w := 3) (by omega) (by decide)) (mm_fit_of cbX8_put (by decide) (by decide)) wq888 cvX8_put wv14 rfl rfl rfl (Nat.le_of_ble_eq_true rfl) (by decide) (by decide) rfl dX8_comes_26 ?_
  refine aw_aload_n (x := ad 14 0 0) rfl dX8_comes_29 ?_
  refine aw_iload_n (x := (nI l)) rfl dX8_comes_30 ?_
  refine aw_iconst (v := 4) (by decide) dX8_comes_31 ?_
  refine aw_iload (x := e) rfl dX8_comes_32 ?_
  refine aw_rV (As := [.int (nI l), .int 4, .int e]) (S := []) (v := none) (o2 := (wd_w (wd_w (wd_w (wd_w (wd_w o 8 (20 * l + 1) p) 8 (20 * l + 2) 0) 8 (20 * l + 3) f) 8 (20 * l + 4) q) 8 (20 * l + 5) e)) (ct_X8_put (l := l) (w := 4) (by omega) (by decide)) (mm_fit_of cbX8_put (by decide) (by decide)) wq888 cvX8_put wv14 rfl rfl rfl (Nat.le_of_ble_eq_true rfl) (by decide) (by decide) rfl dX8_comes_34 ?_
  refine aw_aload_n (x := ad 14 0 0) rfl dX8_comes_37 ?_
  refine aw_iload_n (x := (nI l)) rfl dX8_comes_38 ?_
  refine aw_iconst (v := 5) (by decide) dX8_comes_39 ?_
  refine aw_iconst (v := 0) (by decide) dX8_comes_40 ?_
  refine aw_rV (As := [.int (nI l), .int 5, .int 0]) (S := []) (v := none) (o2 := (wd_w (wd_w (wd_w (wd_w (wd_w (wd_w o 8 (20 * l + 1) p) 8 (20 * l + 2) 0) 8 (20 * l + 3) f) 8 (20 * l + 4) q) 8 (20 * l + 5) e) 8 (20 * l + 6) 0)) (ct_X8_put (l := l) (w := 5) (by omega) (by decide)) (mm_fit_of cbX8_put (by decide) (by decide)) wq888 cvX8_put wv14 rfl rfl rfl (Nat.le_of_ble_eq_true rfl) (by decide) (by decide) rfl dX8_comes_41 ?_
  exact aw_vret rfl (by decide) (by decide) dX8_comes_44 ⟨rfl, by (first | with_reducible rfl | (simp [mf_comes, oI, mR, wd_w_row, row_self, row_row]; done) | (simp_all [mf_comes, oI, mR, wd_w_row, row_self, row_row]; done))⟩
def mf_on (N : Nat → Int32) (l i : Nat) : Int32 := if N (101 + 8 * i + 1) = nI l then (if N (101 + 8 * i + 6) = 1 then (if mf_cut N l i = 0 then 1 else 0) else 0) else 0
theorem ct_X8_isOn_y {ad : Nat → Nat → Nat → Nat} {o : wd_S} {n m : Nat} (G : cg (o.1 8) n m) {l s : Nat} (hl : l < 5) (hs : s < 16) (hh : o.1 8 (101 + 8 * s + 1) = nI l) : CT ad MX8_isOn [.ref (ad 14 0 0), .int (nI s), .int (nI l)] o (RT (some (.int (mf_on (o.1 8) l s))) o) := by
  obtain ⟨g1, g2, g3, g4, g5, g6⟩ := id G
  refine CT.of (L := [some (.ref (ad 14 0 0)), some (.int (nI s)), some (.int (nI l))]) rfl rfl (by decide) (Nat.le_of_ble_eq_true rfl) rfl ?_
  refine aw_aload_n (x := ad 14 0 0) rfl dX8_isOn_0 ?_
  refine aw_iload_n (x := (nI s)) rfl dX8_isOn_1 ?_
  refine aw_iconst (v := 0) (by decide) dX8_isOn_2 ?_
  refine aw_rV (As := [.int (nI s), .int 0]) (S := []) (v := some (.int (nI l))) (o2 := o) (RTv (ct_X8_its (s := s) (w := 0) (by omega) (by decide)) hh) (mm_fit_of cbX8_its (by decide) (by decide)) wq949 cvX8_its wv14 rfl rfl rfl (Nat.le_of_ble_eq_true rfl) (by decide) (by decide) rfl dX8_isOn_3 ?_
  refine aw_iload_n (x := (nI l)) rfl dX8_isOn_6 ?_
  refine aw_icmp_ne (tgt := 32) (by decide) dX8_isOn_7 (fun z => absurd rfl z) (fun _ => ?_)
  refine aw_aload_n (x := ad 14 0 0) rfl dX8_isOn_10 ?_
  refine aw_iload_n (x := (nI s)) rfl dX8_isOn_11 ?_
  refine aw_iconst (v := 5) (by decide) dX8_isOn_12 ?_
  refine aw_rV (As := [.int (nI s), .int 5]) (S := []) (v := some (.int (o.1 8 (101 + 8 * s + 6)))) (o2 := o) (ct_X8_its (s := s) (w := 5) (by omega) (by decide)) (mm_fit_of cbX8_its (by decide) (by decide)) wq949 cvX8_its wv14 rfl rfl rfl (Nat.le_of_ble_eq_true rfl) (by decide) (by decide) rfl dX8_isOn_13 ?_
  refine aw_iconst (v := 1) (by decide) dX8_isOn_16 ?_
  refine aw_icmp_ne (tgt := 32) (by decide) dX8_isOn_17 (fun b1 => ?_) (fun b1 => ?_)
  · skip
    refine aw_iconst (v := 0) (by decide) dX8_isOn_32 ?_
    exact aw_zret rfl (by decide) (by decide) (by decide) dX8_isOn_33 ⟨by (first | with_reducible rfl | (simp [mf_on, hh, oI, mR, wd_w_row, row_self, row_row, b1]; done) | (simp_all [mf_on, hh, oI, mR, wd_w_row, row_self, row_row, b1]; done)), by (first | with_reducible rfl | (simp [mf_on, hh, oI, mR, wd_w_row, row_self, row_row, b1]; done) | (simp_all [mf_on, hh, oI, mR, wd_w_row, row_self, row_row, b1]; done))⟩
  · skip
    refine aw_aload_n (x := ad 14 0 0) rfl dX8_isOn_20 ?_
    refine aw_iload_n (x := (nI s)) rfl dX8_isOn_21 ?_
    refine aw_rV (As := [.int (nI s)]) (S := []) (v := some (.int (mf_cut (o.1 8) l s))) (o2 := o) (ct_X8_cut G hl (by omega) hh) (mm_fit_of cbX8_cut (by decide) (by decide)) wq993 cvX8_cut wv14 rfl rfl rfl (Nat.le_of_ble_eq_true rfl) (by decide) (by decide) rfl dX8_isOn_22 ?_
    refine aw_if_ne (tgt := 32) (by decide) dX8_isOn_25 (fun b2 => ?_) (fun b2 => ?_)
    · skip
      refine aw_iconst (v := 0) (by decide) dX8_isOn_32 ?_
      exact aw_zret rfl (by decide) (by decide) (by decide) dX8_isOn_33 ⟨by (first | with_reducible rfl | (simp [mf_on, hh, oI, mR, wd_w_row, row_self, row_row, b1, b2]; done) | (simp_all [mf_on, hh, oI, mR, wd_w_row, row_self, row_row, b1, b2]; done)), by (first | with_reducible rfl | (simp [mf_on, hh, oI, mR, wd_w_row, row_self, row_row, b1, b2]; done) | (simp_all [mf_on, hh, oI, mR, wd_w_row, row_self, row_row, b1, b2]; done))⟩
    · skip
      refine aw_iconst (v := 1) (by decide) dX8_isOn_28 ?_
      refine aw_goto (tgt := 33) (by decide) dX8_isOn_29 ?_
      exact aw_zret rfl (by decide) (by decide) (by decide) dX8_isOn_33 ⟨by (first | with_reducible rfl | (simp [mf_on, hh, oI, mR, wd_w_row, row_self, row_row, b1, b2]; done) | (simp_all [mf_on, hh, oI, mR, wd_w_row, row_self, row_row, b1, b2]; done)), by (first | with_reducible rfl | (simp [mf_on, hh, oI, mR, wd_w_row, row_self, row_row, b1, b2]; done) | (simp_all [mf_on, hh, oI, mR, wd_w_row, row_self, row_row, b1, b2]; done))⟩
theorem ct_X8_isOn_n {ad : Nat → Nat → Nat → Nat} {o : wd_S} {n m : Nat} (G : cg (o.1 8) n m) {l s : Nat} (hs : s < 16) (hh : ¬ o.1 8 (101 + 8 * s + 1) = nI l) : CT ad MX8_isOn [.ref (ad 14 0 0), .int (nI s), .int (nI l)] o (RT (some (.int (mf_on (o.1 8) l s))) o) := by
  obtain ⟨g1, g2, g3, g4, g5, g6⟩ := id G
  refine CT.of (L := [some (.ref (ad 14 0 0)), some (.int (nI s)), some (.int (nI l))]) rfl rfl (by decide) (Nat.le_of_ble_eq_true rfl) rfl ?_
  refine aw_aload_n (x := ad 14 0 0) rfl dX8_isOn_0 ?_
  refine aw_iload_n (x := (nI s)) rfl dX8_isOn_1 ?_
  refine aw_iconst (v := 0) (by decide) dX8_isOn_2 ?_
  refine aw_rV (As := [.int (nI s), .int 0]) (S := []) (v := some (.int (o.1 8 (101 + 8 * s + 1)))) (o2 := o) (ct_X8_its (s := s) (w := 0) (by omega) (by decide)) (mm_fit_of cbX8_its (by decide) (by decide)) wq949 cvX8_its wv14 rfl rfl rfl (Nat.le_of_ble_eq_true rfl) (by decide) (by decide) rfl dX8_isOn_3 ?_
  refine aw_iload_n (x := (nI l)) rfl dX8_isOn_6 ?_
  refine aw_icmp_ne (tgt := 32) (by decide) dX8_isOn_7 (fun _ => ?_) (fun z => absurd z hh)
  refine aw_iconst (v := 0) (by decide) dX8_isOn_32 ?_
  exact aw_zret rfl (by decide) (by decide) (by decide) dX8_isOn_33 ⟨by (first | with_reducible rfl | (simp [mf_on, hh, oI, mR, wd_w_row, row_self, row_row]; done) | (simp_all [mf_on, hh, oI, mR, wd_w_row, row_self, row_row]; done)), by (first | with_reducible rfl | (simp [mf_on, hh, oI, mR, wd_w_row, row_self, row_row]; done) | (simp_all [mf_on, hh, oI, mR, wd_w_row, row_self, row_row]; done))⟩
theorem ct_X8_isOn {ad : Nat → Nat → Nat → Nat} {o : wd_S} {n m : Nat} (G : cg (o.1 8) n m) {l s : Nat} (hl : l < 5) (hs : s < 16) : CT ad MX8_isOn [.ref (ad 14 0 0), .int (nI s), .int (nI l)] o (RT (some (.int (mf_on (o.1 8) l s))) o) := by
  by_cases hh : o.1 8 (101 + 8 * s + 1) = nI l
  · exact ct_X8_isOn_y G hl hs hh
  · exact ct_X8_isOn_n G hs hh
theorem mon_01 (N : Nat → Int32) (l s : Nat) : mf_on N l s = 0 ∨ mf_on N l s = 1 := by unfold mf_on; split <;> (try split) <;> (try split) <;> simp
def mf_priv (N : Nat → Int32) (x : Int32) : Int32 := if x = -1 then 0 else if N (101 + 8 * x.toNatClampNeg + 4) = 1 then 1 else 0
theorem ct_X8_isPrivate_s {ad : Nat → Nat → Nat → Nat} {o : wd_S}  {s : Nat} (hs : s < 16) : CT ad MX8_isPrivate [.ref (ad 14 0 0), .int (nI s)] o (RT (some (.int (if o.1 8 (101 + 8 * s + 4) = 1 then 1 else 0))) o) := by
  refine CT.of (L := [some (.ref (ad 14 0 0)), some (.int (nI s))]) rfl rfl (by decide) (Nat.le_of_ble_eq_true rfl) rfl ?_
  refine aw_iload_n (x := (nI s)) rfl dX8_isPrivate_0 ?_
  refine aw_iconst (v := (-1)) (by decide) dX8_isPrivate_1 ?_
  refine aw_icmp_eq (tgt := 19) (by decide) dX8_isPrivate_2 (fun z => absurd z (nI_m1 (by omega))) (fun _ => ?_)
  refine aw_aload_n (x := ad 14 0 0) rfl dX8_isPrivate_5 ?_
  refine aw_iload_n (x := (nI s)) rfl dX8_isPrivate_6 ?_
  refine aw_iconst (v := 3) (by decide) dX8_isPrivate_7 ?_
  refine aw_rV (As := [.int (nI s), .int 3]) (S := []) (v := some (.int (o.1 8 (101 + 8 * s + 4)))) (o2 := o) (ct_X8_its (s := s) (w := 3) (by omega) (by decide)) (mm_fit_of cbX8_its (by decide) (by decide)) wq949 cvX8_its wv14 rfl rfl rfl (Nat.le_of_ble_eq_true rfl) (by decide) (by decide) rfl dX8_isPrivate_8 ?_
  refine aw_iconst (v := 1) (by decide) dX8_isPrivate_11 ?_
  refine aw_icmp_ne (tgt := 19) (by decide) dX8_isPrivate_12 (fun b1 => ?_) (fun b1 => ?_)
  · skip
    refine aw_iconst (v := 0) (by decide) dX8_isPrivate_19 ?_
    exact aw_zret rfl (by decide) (by decide) (by decide) dX8_isPrivate_20 ⟨by (first | with_reducible rfl | (simp [oI, mR, wd_w_row, row_self, row_row, b1]; done) | (simp_all [oI, mR, wd_w_row, row_self, row_row, b1]; done)), by (first | with_reducible rfl | (simp [oI, mR, wd_w_row, row_self, row_row, b1]; done) | (simp_all [oI, mR, wd_w_row, row_self, row_row, b1]; done))⟩
  · skip
    refine aw_iconst (v := 1) (by decide) dX8_isPrivate_15 ?_
    refine aw_goto (tgt := 20) (by decide) dX8_isPrivate_16 ?_
    exact aw_zret rfl (by decide) (by decide) (by decide) dX8_isPrivate_20 ⟨by (first | with_reducible rfl | (simp [oI, mR, wd_w_row, row_self, row_row, b1]; done) | (simp_all [oI, mR, wd_w_row, row_self, row_row, b1]; done)), by (first | with_reducible rfl | (simp [oI, mR, wd_w_row, row_self, row_row, b1]; done) | (simp_all [oI, mR, wd_w_row, row_self, row_row, b1]; done))⟩
theorem ct_X8_isPrivate_n {ad : Nat → Nat → Nat → Nat} {o : wd_S}   : CT ad MX8_isPrivate [.ref (ad 14 0 0), .int (-1)] o (RT (some (.int 0)) o) := by
  refine CT.of (L := [some (.ref (ad 14 0 0)), some (.int (-1))]) rfl rfl (by decide) (Nat.le_of_ble_eq_true rfl) rfl ?_
  refine aw_iload_n (x := (-1)) rfl dX8_isPrivate_0 ?_
  refine aw_iconst (v := (-1)) (by decide) dX8_isPrivate_1 ?_
  refine aw_icmp_eq (tgt := 19) (by decide) dX8_isPrivate_2 (fun _ => ?_) (fun z => absurd z (by decide))
  refine aw_iconst (v := 0) (by decide) dX8_isPrivate_19 ?_
  exact aw_zret rfl (by decide) (by decide) (by decide) dX8_isPrivate_20 ⟨by (first | with_reducible rfl | (simp [oI, mR, wd_w_row, row_self, row_row]; done) | (simp_all [oI, mR, wd_w_row, row_self, row_row]; done)), by (first | with_reducible rfl | (simp [oI, mR, wd_w_row, row_self, row_row]; done) | (simp_all [oI, mR, wd_w_row, row_self, row_row]; done))⟩
def orF (f : Nat → Int32) : Nat → Nat → Int32
  | 0, _ => 0
  | k + 1, i => f i ||| orF f k (i + 1)
theorem orF_acc (a b c : Int32) : a ||| (b ||| c) = a ||| b ||| c := (Int32.or_assoc a b c).symm
def mf_tk (N : Nat → Int32) (l : Nat) (c b : Int32) (i : Nat) : Int32 := if nI i = b then 0 else if N (101 + 8 * i + 1) = nI l then (if N (101 + 8 * i + 3) = c then 1 else 0) else 0
theorem lp_X8_isTaken {ad : Nat → Nat → Nat → Nat} {o : wd_S} {n m : Nat} (G : cg (o.1 8) n m) {l : Nat} (hl : l < 5) {c b : Int32} : ∀ (k i : Nat) (a : Int32), i + k = m → (a = 0 ∨ a = 1) → AW ad MX8_isTaken 6 [some (.ref (ad 14 0 0)), some (.int (nI l)), some (.int c), some (.int b), some (.int a), some (.int (nI i))] [] o 0 0 (RT (some (.int (a ||| orF (mf_tk (o.1 8) l c b) (k) (i)))) o) := by
  obtain ⟨g1, g2, g3, g4, g5, g6⟩ := id G
  intro k
  induction k with
  | zero =>
    intro i a hk ha
    refine aw_iload (x := (nI i)) rfl dX8_isTaken_6 ?_
    refine aw_aload_n (x := ad 14 0 0) rfl dX8_isTaken_8 ?_
    refine aw_getr (q := (15, 0, 0)) wv14 rfl flX8_7 rfl rfl dX8_isTaken_9 ?_
    refine aw_bipush (v := 101) (by decide) dX8_isTaken_12 ?_
    refine aw_ild (x := 101) (q := (8, 101)) (y := nI m) (by decide) (wv15 (by decide)) rfl G.2.2.1 (Nat.le_of_ble_eq_true rfl) rfl dX8_isTaken_14 ?_
    refine aw_icmp_ge (tgt := 62) (by decide) dX8_isTaken_15 (fun _ => ?_) (fun z => absurd (nI_le (by omega) (by omega)) z)
    refine aw_iload (x := a) rfl dX8_isTaken_62 ?_
    exact aw_zret rfl ha (by decide) (by decide) dX8_isTaken_64 ⟨by first | rfl | (simp [orF, mf_tk, mem]; done) | (simp_all [orF, mf_tk, mem]; done), by first | rfl | (simp [orF, mf_tk, mem]; done) | (simp_all [orF, mf_tk, mem]; done)⟩
  | succ k ih =>
    intro i a hk ha
    refine aw_iload (x := (nI i)) rfl dX8_isTaken_6 ?_
    refine aw_aload_n (x := ad 14 0 0) rfl dX8_isTaken_8 ?_
    refine aw_getr (q := (15, 0, 0)) wv14 rfl flX8_7 rfl rfl dX8_isTaken_9 ?_
    refine aw_bipush (v := 101) (by decide) dX8_isTaken_12 ?_
    refine aw_ild (x := 101) (q := (8, 101)) (y := nI m) (by decide) (wv15 (by decide)) rfl G.2.2.1 (Nat.le_of_ble_eq_true rfl) rfl dX8_isTaken_14 ?_
    refine aw_icmp_ge (tgt := 62) (by decide) dX8_isTaken_15 (fun z => absurd z (nI_ge (by omega) (by omega))) (fun _ => ?_)
    refine aw_iload (x := a) rfl dX8_isTaken_18 ?_
    refine aw_iload (x := (nI i)) rfl dX8_isTaken_20 ?_
    refine aw_iload_n (x := b) rfl dX8_isTaken_22 ?_
    refine aw_icmp_eq (tgt := 52) (by decide) dX8_isTaken_23 (fun b1 => ?_) (fun b1 => ?_)
    · skip
      refine aw_iconst (v := 0) (by decide) dX8_isTaken_52 ?_
      refine aw_iorz (z := a ||| 0) rfl dX8_isTaken_53 ?_
      refine aw_istore (L2 := [some (.ref (ad 14 0 0)), some (.int (nI l)), some (.int c), some (.int b), some (.int (a ||| 0)), some (.int (nI i))]) (by decide) rfl rfl dX8_isTaken_54 ?_
      refine aw_iinc (n := 1) (x := (nI i)) (v := nI (i + 1)) (L2 := [some (.ref (ad 14 0 0)), some (.int (nI l)), some (.int c), some (.int b), some (.int (a ||| 0)), some (.int (nI (i + 1)))]) rfl (nI_1 i) (by decide) rfl rfl dX8_isTaken_56 ?_
      refine aw_goto (tgt := 6) (by decide) dX8_isTaken_59 ?_
      have e9 : (RT (some (.int (a ||| orF (mf_tk (o.1 8) l c b) (k + 1) (i)))) o) = (RT (some (.int ((a ||| 0) ||| orF (mf_tk (o.1 8) l c b) (k) (i + 1)))) o) := by first | (simp [orF, mf_tk, orF_acc, mem, b1]; done) | (simp_all [orF, mf_tk, orF_acc, mem, b1]; done)
      rw [e9]
      exact AW.locs (ih (i + 1) (a ||| 0) (by omega) (by rcases ha with rfl | rfl <;> decide)) (lsub_keep (lsub_keep (lsub_keep (lsub_keep (lsub_keep (lsub_keep lsub_nil))))))
    · skip
      refine aw_aload_n (x := ad 14 0 0) rfl dX8_isTaken_26 ?_
      refine aw_iload (x := (nI i)) rfl dX8_isTaken_27 ?_
      refine aw_iconst (v := 0) (by decide) dX8_isTaken_29 ?_
      refine aw_rV (As := [.int (nI i), .int 0]) (S := [.int a]) (v := some (.int (o.1 8 (101 + 8 * i + 1)))) (o2 := o) (ct_X8_its (s := i) (w := 0) (by omega) (by decide)) (mm_fit_of cbX8_its (by decide) (by decide)) wq949 cvX8_its wv14 rfl rfl rfl (Nat.le_of_ble_eq_true rfl) (by decide) (by decide) rfl dX8_isTaken_30 ?_
      refine aw_iload_n (x := (nI l)) rfl dX8_isTaken_33 ?_
      refine aw_icmp_ne (tgt := 52) (by decide) dX8_isTaken_34 (fun b2 => ?_) (fun b2 => ?_)
      · skip
        refine aw_iconst (v := 0) (by decide) dX8_isTaken_52 ?_
        refine aw_iorz (z := a ||| 0) rfl dX8_isTaken_53 ?_
        refine aw_istore (L2 := [some (.ref (ad 14 0 0)), some (.int (nI l)), some (.int c), some (.int b), some (.int (a ||| 0)), some (.int (nI i))]) (by decide) rfl rfl dX8_isTaken_54 ?_
        refine aw_iinc (n := 1) (x := (nI i)) (v := nI (i + 1)) (L2 := [some (.ref (ad 14 0 0)), some (.int (nI l)), some (.int c), some (.int b), some (.int (a ||| 0)), some (.int (nI (i + 1)))]) rfl (nI_1 i) (by decide) rfl rfl dX8_isTaken_56 ?_
        refine aw_goto (tgt := 6) (by decide) dX8_isTaken_59 ?_
        have e9 : (RT (some (.int (a ||| orF (mf_tk (o.1 8) l c b) (k + 1) (i)))) o) = (RT (some (.int ((a ||| 0) ||| orF (mf_tk (o.1 8) l c b) (k) (i + 1)))) o) := by first | (simp [orF, mf_tk, orF_acc, mem, b1, b2]; done) | (simp_all [orF, mf_tk, orF_acc, mem, b1, b2]; done)
        rw [e9]
        exact AW.locs (ih (i + 1) (a ||| 0) (by omega) (by rcases ha with rfl | rfl <;> decide)) (lsub_keep (lsub_keep (lsub_keep (lsub_keep (lsub_keep (lsub_keep lsub_nil))))))
      · skip
        refine aw_aload_n (x := ad 14 0 0) rfl dX8_isTaken_37 ?_
        refine aw_iload (x := (nI i)) rfl dX8_isTaken_38 ?_
        refine aw_iconst (v := 2) (by decide) dX8_isTaken_40 ?_
        refine aw_rV (As := [.int (nI i), .int 2]) (S := [.int a]) (v := some (.int (o.1 8 (101 + 8 * i + 3)))) (o2 := o) (ct_X8_its (s := i) (w := 2) (by omega) (by decide)) (mm_fit_of cbX8_its (by decide) (by decide)) wq949 cvX8_its wv14 rfl rfl rfl (Nat.le_of_ble_eq_true rfl) (by decide) (by decide) rfl dX8_isTaken_41 ?_
        refine aw_iload_n (x := c) rfl dX8_isTaken_44 ?_
        refine aw_icmp_ne (tgt := 52) (by decide) dX8_isTaken_45 (fun b3 => ?_) (fun b3 => ?_)
        · skip
          refine aw_iconst (v := 0) (by decide) dX8_isTaken_52 ?_
          refine aw_iorz (z := a ||| 0) rfl dX8_isTaken_53 ?_
          refine aw_istore (L2 := [some (.ref (ad 14 0 0)), some (.int (nI l)), some (.int c), some (.int b), some (.int (a ||| 0)), some (.int (nI i))]) (by decide) rfl rfl dX8_isTaken_54 ?_
          refine aw_iinc (n := 1) (x := (nI i)) (v := nI (i + 1)) (L2 := [some (.ref (ad 14 0 0)), some (.int (nI l)), some (.int c), some (.int b), some (.int (a ||| 0)), some (.int (nI (i + 1)))]) rfl (nI_1 i) (by decide) rfl rfl dX8_isTaken_56 ?_
          refine aw_goto (tgt := 6) (by decide) dX8_isTaken_59 ?_
          have e9 : (RT (some (.int (a ||| orF (mf_tk (o.1 8) l c b) (k + 1) (i)))) o) = (RT (some (.int ((a ||| 0) ||| orF (mf_tk (o.1 8) l c b) (k) (i + 1)))) o) := by first | (simp [orF, mf_tk, orF_acc, mem, b1, b2, b3]; done) | (simp_all [orF, mf_tk, orF_acc, mem, b1, b2, b3]; done)
          rw [e9]
          exact AW.locs (ih (i + 1) (a ||| 0) (by omega) (by rcases ha with rfl | rfl <;> decide)) (lsub_keep (lsub_keep (lsub_keep (lsub_keep (lsub_keep (lsub_keep lsub_nil))))))
        · skip
          refine aw_iconst (v := 1) (by decide) dX8_isTaken_48 ?_
          refine aw_goto (tgt := 53) (by decide) dX8_isTaken_49 ?_
          refine aw_iorz (z := a ||| 1) rfl dX8_isTaken_53 ?_
          refine aw_istore (L2 := [some (.ref (ad 14 0 0)), some (.int (nI l)), some (.int c), some (.int b), some (.int (a ||| 1)), some (.int (nI i))]) (by decide) rfl rfl dX8_isTaken_54 ?_
          refine aw_iinc (n := 1) (x := (nI i)) (v := nI (i + 1)) (L2 := [some (.ref (ad 14 0 0)), some (.int (nI l)), some (.int c), some (.int b), some (.int (a ||| 1)), some (.int (nI (i + 1)))]) rfl (nI_1 i) (by decide) rfl rfl dX8_isTaken_56 ?_
          refine aw_goto (tgt := 6) (by decide) dX8_isTaken_59 ?_
          have e9 : (RT (some (.int (a ||| orF (mf_tk (o.1 8) l c b) (k + 1) (i)))) o) = (RT (some (.int ((a ||| 1) ||| orF (mf_tk (o.1 8) l c b) (k) (i + 1)))) o) := by first | (simp [orF, mf_tk, orF_acc, mem, b1, b2, b3]; done) | (simp_all [orF, mf_tk, orF_acc, mem, b1, b2, b3]; done)
          rw [e9]
          exact AW.locs (ih (i + 1) (a ||| 1) (by omega) (by rcases ha with rfl | rfl <;> decide)) (lsub_keep (lsub_keep (lsub_keep (lsub_keep (lsub_keep (lsub_keep lsub_nil))))))
theorem ct_X8_isTaken {ad : Nat → Nat → Nat → Nat} {o : wd_S} {n m : Nat} (G : cg (o.1 8) n m) {l : Nat} (hl : l < 5) {c b : Int32} : CT ad MX8_isTaken [.ref (ad 14 0 0), .int (nI l), .int c, .int b] o (RT (some (.int (orF (mf_tk (o.1 8) l c b) m 0))) o) := by
  obtain ⟨g1, g2, g3, g4, g5, g6⟩ := id G
  refine CT.of (L := [some (.ref (ad 14 0 0)), some (.int (nI l)), some (.int c), some (.int b), none, none]) rfl rfl (by decide) (Nat.le_of_ble_eq_true rfl) rfl ?_
  refine aw_iconst (v := 0) (by decide) dX8_isTaken_0 ?_
  refine aw_istore (L2 := [some (.ref (ad 14 0 0)), some (.int (nI l)), some (.int c), some (.int b), some (.int 0), none]) (by decide) rfl rfl dX8_isTaken_1 ?_
  refine aw_iconst (v := 0) (by decide) dX8_isTaken_3 ?_
  refine aw_istore (L2 := [some (.ref (ad 14 0 0)), some (.int (nI l)), some (.int c), some (.int b), some (.int 0), some (.int 0)]) (by decide) rfl rfl dX8_isTaken_4 ?_
  exact AW.post (AW.locs (lp_X8_isTaken G hl m 0 0 (by omega) (Or.inl rfl)) (lsub_keep (lsub_keep (lsub_keep (lsub_keep (lsub_keep (lsub_keep lsub_nil))))))) (fun r o2 q => by simpa [] using q)
def mf_open (N : Nat → Int32) (n : Nat) : Nat → Int32 := upd (upd (upd (upd (upd (upd (upd (upd (upd (upd (upd (upd (upd (upd (upd (upd (upd N 0 (nI (n + 1))) (20 * n + 3) (-1)) (20 * n + 4) (-1)) (20 * n + 5) (-1)) (20 * n + 7) (-1)) (20 * n + 9) 1) (20 * n + 10) 1) (20 * n + 11) 1) (20 * n + 12) 1) (20 * n + 13) 1) (20 * n + 14) 1) (20 * n + 15) 1) (20 * n + 16) 1) (20 * n + 17) 1) (20 * n + 18) 1) (20 * n + 19) 1) (20 * n + 20) 1
theorem ct_X8_makesLoop {ad : Nat → Nat → Nat → Nat} {o : wd_S}  {n : Nat} (g1 : o.1 8 0 = nI n) (hn : n < 5) : CT ad MX8_makesLoop [.ref (ad 14 0 0)] o (RT none (wd_row o 8 (mf_open (o.1 8) n))) := by
  refine CT.of (L := [some (.ref (ad 14 0 0)), none, none]) rfl rfl (by decide) (Nat.le_of_ble_eq_true rfl) rfl ?_
  refine aw_aload_n (x := ad 14 0 0) rfl dX8_makesLoop_0 ?_
  refine aw_getr (q := (15, 0, 0)) wv14 rfl flX8_7 rfl rfl dX8_makesLoop_1 ?_
  refine aw_iconst (v := 0) (by decide) dX8_makesLoop_4 ?_
  refine aw_ild (x := 0) (q := (8, 0)) (y := nI n) (by decide) (wv15 (by decide)) rfl g1 (Nat.le_of_ble_eq_true rfl) rfl dX8_makesLoop_5 ?_
  refine aw_istore_n (L2 := [some (.ref (ad 14 0 0)), some (.int (nI n)), none]) (by decide) rfl rfl dX8_makesLoop_6 ?_
  refine aw_aload_n (x := ad 14 0 0) rfl dX8_makesLoop_7 ?_
  refine aw_getr (q := (15, 0, 0)) wv14 rfl flX8_7 rfl rfl dX8_makesLoop_8 ?_
  refine aw_iconst (v := 0) (by decide) dX8_makesLoop_11 ?_
  refine aw_dup2 rfl rfl dX8_makesLoop_12 ?_
  refine aw_ild (x := 0) (q := (8, 0)) (y := nI n) (by decide) (wv15 (by decide)) rfl g1 (Nat.le_of_ble_eq_true rfl) rfl dX8_makesLoop_13 ?_
  refine aw_iconst (v := 1) (by decide) dX8_makesLoop_14 ?_
  refine aw_iaddz (z := nI (n + 1)) (nI_add n 1) dX8_makesLoop_15 ?_
  refine aw_ist (x := 0) (q := (8, 0)) (y := nI (n + 1)) (by decide) (wv15 (by decide)) rfl (Nat.le_of_ble_eq_true rfl) rfl dX8_makesLoop_16 ?_
  refine aw_aload_n (x := ad 14 0 0) rfl dX8_makesLoop_17 ?_
  refine aw_iload_n (x := (nI n)) rfl dX8_makesLoop_18 ?_
  refine aw_iconst (v := 2) (by decide) dX8_makesLoop_19 ?_
  refine aw_iconst (v := (-1)) (by decide) dX8_makesLoop_20 ?_
  refine aw_rV (As := [.int (nI n), .int 2, .int (-1)]) (S := []) (v := none) (o2 := (wd_w (wd_w o 8 0 (nI (n + 1))) 8 (20 * n + 3) (-1))) (ct_X8_put (l := n) (w := 2) (by omega) (by decide)) (mm_fit_of cbX8_put (by decide) (by decide)) wq888 cvX8_put wv14 rfl rfl rfl (Nat.le_of_ble_eq_true rfl) (by decide) (by decide) rfl dX8_makesLoop_21 ?_
  refine aw_aload_n (x := ad 14 0 0) rfl dX8_makesLoop_24 ?_
  refine aw_iload_n (x := (nI n)) rfl dX8_makesLoop_25 ?_
  refine aw_iconst (v := 3) (by decide) dX8_makesLoop_26 ?_
  refine aw_iconst (v := (-1)) (by decide) dX8_makesLoop_27 ?_
  refine aw_rV (As := [.int (nI n), .int 3, .int (-1)]) (S := []) (v := none) (o2 := (wd_w (wd_w (wd_w o 8 0 (nI (n + 1))) 8 (20 * n + 3) (-1)) 8 (20 * n + 4) (-1))) (ct_X8_put (l := n) (w := 3) (by omega) (by decide)) (mm_fit_of cbX8_put (by decide) (by decide)) wq888 cvX8_put wv14 rfl rfl rfl (Nat.le_of_ble_eq_true rfl) (by decide) (by decide) rfl dX8_makesLoop_28 ?_
  refine aw_aload_n (x := ad 14 0 0) rfl dX8_makesLoop_31 ?_
  refine aw_iload_n (x := (nI n)) rfl dX8_makesLoop_32 ?_
  refine aw_iconst (v := 4) (by decide) dX8_makesLoop_33 ?_
  refine aw_iconst (v := (-1)) (by decide) dX8_makesLoop_34 ?_
  refine aw_rV (As := [.int (nI n), .int 4, .int (-1)]) (S := []) (v := none) (o2 := (wd_w (wd_w (wd_w (wd_w o 8 0 (nI (n + 1))) 8 (20 * n + 3) (-1)) 8 (20 * n + 4) (-1)) 8 (20 * n + 5) (-1))) (ct_X8_put (l := n) (w := 4) (by omega) (by decide)) (mm_fit_of cbX8_put (by decide) (by decide)) wq888 cvX8_put wv14 rfl rfl rfl (Nat.le_of_ble_eq_true rfl) (by decide) (by decide) rfl dX8_makesLoop_35 ?_
  refine aw_aload_n (x := ad 14 0 0) rfl dX8_makesLoop_38 ?_
  refine aw_iload_n (x := (nI n)) rfl dX8_makesLoop_39 ?_
  refine aw_bipush (v := 6) (by decide) dX8_makesLoop_40 ?_
  refine aw_iconst (v := (-1)) (by decide) dX8_makesLoop_42 ?_
  refine aw_rV (As := [.int (nI n), .int 6, .int (-1)]) (S := []) (v := none) (o2 := (wd_w (wd_w (wd_w (wd_w (wd_w o 8 0 (nI (n + 1))) 8 (20 * n + 3) (-1)) 8 (20 * n + 4) (-1)) 8 (20 * n + 5) (-1)) 8 (20 * n + 7) (-1))) (ct_X8_put (l := n) (w := 6) (by omega) (by decide)) (mm_fit_of cbX8_put (by decide) (by decide)) wq888 cvX8_put wv14 rfl rfl rfl (Nat.le_of_ble_eq_true rfl) (by decide) (by decide) rfl dX8_makesLoop_43 ?_
  refine aw_iconst (v := 0) (by decide) dX8_makesLoop_46 ?_
  refine aw_istore_n (L2 := [some (.ref (ad 14 0 0)), some (.int (nI n)), some (.int 0)]) (by decide) rfl rfl dX8_makesLoop_47 ?_
  refine aw_iload_n (x := 0) rfl dX8_makesLoop_48 ?_
  refine aw_bipush (v := 12) (by decide) dX8_makesLoop_49 ?_
  refine aw_icmp_ge (tgt := 70) (by decide) dX8_makesLoop_51 (fun z => absurd z (by decide)) (fun _ => ?_)
  refine aw_aload_n (x := ad 14 0 0) rfl dX8_makesLoop_54 ?_
  refine aw_iload_n (x := (nI n)) rfl dX8_makesLoop_55 ?_
  refine aw_bipush (v := 8) (by decide) dX8_makesLoop_56 ?_
  refine aw_iload_n (x := 0) rfl dX8_makesLoop_58 ?_
  refine aw_iaddz (z := 8) (by decide) dX8_makesLoop_59 ?_
  refine aw_iconst (v := 1) (by decide) dX8_makesLoop_60 ?_
  refine aw_rV (As := [.int (nI n), .int 8, .int 1]) (S := []) (v := none) (o2 := (wd_w (wd_w (wd_w (wd_w (wd_w (wd_w o 8 0 (nI (n + 1))) 8 (20 * n + 3) (-1)) 8 (20 * n + 4) (-1)) 8 (20 * n + 5) (-1)) 8 (20 * n + 7) (-1)) 8 (20 * n + 9) 1)) (ct_X8_put (l := n) (w := 8) (by omega) (by decide)) (mm_fit_of cbX8_put (by decide) (by decide)) wq888 cvX8_put wv14 rfl rfl rfl (Nat.le_of_ble_eq_true rfl) (by decide) (by decide) rfl dX8_makesLoop_61 ?_
  refine aw_iinc (n := 1) (x := 0) (v := 1) (L2 := [some (.ref (ad 14 0 0)), some (.int (nI n)), some (.int 1)]) rfl (by decide) (by decide) rfl rfl dX8_makesLoop_64 ?_
  refine aw_goto (tgt := 48) (by decide) dX8_makesLoop_67 ?_
  refine aw_iload_n (x := 1) rfl dX8_makesLoop_48 ?_
  refine aw_bipush (v := 12) (by decide) dX8_makesLoop_49 ?_
  refine aw_icmp_ge (tgt := 70) (by decide) dX8_makesLoop_51 (fun z => absurd z (by decide)) (fun _ => ?_)
  refine aw_aload_n (x := ad 14 0 0) rfl dX8_makesLoop_54 ?_
  refine aw_iload_n (x := (nI n)) rfl dX8_makesLoop_55 ?_
  refine aw_bipush (v := 8) (by decide) dX8_makesLoop_56 ?_
  refine aw_iload_n (x := 1) rfl dX8_makesLoop_58 ?_
  refine aw_iaddz (z := 9) (by decide) dX8_makesLoop_59 ?_
  refine aw_iconst (v := 1) (by decide) dX8_makesLoop_60 ?_
  refine aw_rV (As := [.int (nI n), .int 9, .int 1]) (S := []) (v := none) (o2 := (wd_w (wd_w (wd_w (wd_w (wd_w (wd_w (wd_w o 8 0 (nI (n + 1))) 8 (20 * n + 3) (-1)) 8 (20 * n + 4) (-1)) 8 (20 * n + 5) (-1)) 8 (20 * n + 7) (-1)) 8 (20 * n + 9) 1) 8 (20 * n + 10) 1)) (ct_X8_put (l := n) (w := 9) (by omega) (by decide)) (mm_fit_of cbX8_put (by decide) (by decide)) wq888 cvX8_put wv14 rfl rfl rfl (Nat.le_of_ble_eq_true rfl) (by decide) (by decide) rfl dX8_makesLoop_61 ?_
  refine aw_iinc (n := 1) (x := 1) (v := 2) (L2 := [some (.ref (ad 14 0 0)), some (.int (nI n)), some (.int 2)]) rfl (by decide) (by decide) rfl rfl dX8_makesLoop_64 ?_
  refine aw_goto (tgt := 48) (by decide) dX8_makesLoop_67 ?_
  refine aw_iload_n (x := 2) rfl dX8_makesLoop_48 ?_
  refine aw_bipush (v := 12) (by decide) dX8_makesLoop_49 ?_
  refine aw_icmp_ge (tgt := 70) (by decide) dX8_makesLoop_51 (fun z => absurd z (by decide)) (fun _ => ?_)
  refine aw_aload_n (x := ad 14 0 0) rfl dX8_makesLoop_54 ?_
  refine aw_iload_n (x := (nI n)) rfl dX8_makesLoop_55 ?_
  refine aw_bipush (v := 8) (by decide) dX8_makesLoop_56 ?_
  refine aw_iload_n (x := 2) rfl dX8_makesLoop_58 ?_
  refine aw_iaddz (z := 10) (by decide) dX8_makesLoop_59 ?_
  refine aw_iconst (v := 1) (by decide) dX8_makesLoop_60 ?_
  refine aw_rV (As := [.int (nI n), .int 10, .int 1]) (S := []) (v := none) (o2 := (wd_w (wd_w (wd_w (wd_w (wd_w (wd_w (wd_w (wd_w o 8 0 (nI (n + 1))) 8 (20 * n + 3) (-1)) 8 (20 * n + 4) (-1)) 8 (20 * n + 5) (-1)) 8 (20 * n + 7) (-1)) 8 (20 * n + 9) 1) 8 (20 * n + 10) 1) 8 (20 * n + 11) 1)) (ct_X8_put (l := n) (w := 10) (by omega) (by decide)) (mm_fit_of cbX8_put (by decide) (by decide)) wq888 cvX8_put wv14 rfl rfl rfl (Nat.le_of_ble_eq_true rfl) (by decide) (by decide) rfl dX8_makesLoop_61 ?_
  refine aw_iinc (n := 1) (x := 2) (v := 3) (L2 := [some (.ref (ad 14 0 0)), some (.int (nI n)), some (.int 3)]) rfl (by decide) (by decide) rfl rfl dX8_makesLoop_64 ?_
  refine aw_goto (tgt := 48) (by decide) dX8_makesLoop_67 ?_
  refine aw_iload_n (x := 3) rfl dX8_makesLoop_48 ?_
  refine aw_bipush (v := 12) (by decide) dX8_makesLoop_49 ?_
  refine aw_icmp_ge (tgt := 70) (by decide) dX8_makesLoop_51 (fun z => absurd z (by decide)) (fun _ => ?_)
  refine aw_aload_n (x := ad 14 0 0) rfl dX8_makesLoop_54 ?_
  refine aw_iload_n (x := (nI n)) rfl dX8_makesLoop_55 ?_
  refine aw_bipush (v := 8) (by decide) dX8_makesLoop_56 ?_
  refine aw_iload_n (x := 3) rfl dX8_makesLoop_58 ?_
  refine aw_iaddz (z := 11) (by decide) dX8_makesLoop_59 ?_
  refine aw_iconst (v := 1) (by decide) dX8_makesLoop_60 ?_
  refine aw_rV (As := [.int (nI n), .int 11, .int 1]) (S := []) (v := none) (o2 := (wd_w (wd_w (wd_w (wd_w (wd_w (wd_w (wd_w (wd_w (wd_w o 8 0 (nI (n + 1))) 8 (20 * n + 3) (-1)) 8 (20 * n + 4) (-1)) 8 (20 * n + 5) (-1)) 8 (20 * n + 7) (-1)) 8 (20 * n + 9) 1) 8 (20 * n + 10) 1) 8 (20 * n + 11) 1) 8 (20 * n + 12) 1)) (ct_X8_put (l := n) (w := 11) (by omega) (by decide)) (mm_fit_of cbX8_put (by decide) (by decide)) wq888 cvX8_put wv14 rfl rfl rfl (Nat.le_of_ble_eq_true rfl) (by decide) (by decide) rfl dX8_makesLoop_61 ?_
  refine aw_iinc (n := 1) (x := 3) (v := 4) (L2 := [some (.ref (ad 14 0 0)), some (.int (nI n)), some (.int 4)]) rfl (by decide) (by decide) rfl rfl dX8_makesLoop_64 ?_
  refine aw_goto (tgt := 48) (by decide) dX8_makesLoop_67 ?_
  refine aw_iload_n (x := 4) rfl dX8_makesLoop_48 ?_
  refine aw_bipush (v := 12) (by decide) dX8_makesLoop_49 ?_
  refine aw_icmp_ge (tgt := 70) (by decide) dX8_makesLoop_51 (fun z => absurd z (by decide)) (fun _ => ?_)
  refine aw_aload_n (x := ad 14 0 0) rfl dX8_makesLoop_54 ?_
  refine aw_iload_n (x := (nI n)) rfl dX8_makesLoop_55 ?_
  refine aw_bipush (v := 8) (by decide) dX8_makesLoop_56 ?_
  refine aw_iload_n (x := 4) rfl dX8_makesLoop_58 ?_
  refine aw_iaddz (z := 12) (by decide) dX8_makesLoop_59 ?_
  refine aw_iconst (v := 1) (by decide) dX8_makesLoop_60 ?_
  refine aw_rV (As := [.int (nI n), .int 12, .int 1]) (S := []) (v := none) (o2 := (wd_w (wd_w (wd_w (wd_w (wd_w (wd_w (wd_w (wd_w (wd_w (wd_w o 8 0 (nI (n + 1))) 8 (20 * n + 3) (-1)) 8 (20 * n + 4) (-1)) 8 (20 * n + 5) (-1)) 8 (20 * n + 7) (-1)) 8 (20 * n + 9) 1) 8 (20 * n + 10) 1) 8 (20 * n + 11) 1) 8 (20 * n + 12) 1) 8 (20 * n + 13) 1)) (ct_X8_put (l := n) (w := 12) (by omega) (by decide)) (mm_fit_of cbX8_put (by decide) (by decide)) wq888 cvX8_put wv14 rfl rfl rfl (Nat.le_of_ble_eq_true rfl) (by decide) (by decide) rfl dX8_makesLoop_61 ?_
  refine aw_iinc (n := 1) (x := 4) (v := 5) (L2 := [some (.ref (ad 14 0 0)), some (.int (nI n)), some (.int 5)]) rfl (by decide) (by decide) rfl rfl dX8_makesLoop_64 ?_
  refine aw_goto (tgt := 48) (by decide) dX8_makesLoop_67 ?_
  refine aw_iload_n (x := 5) rfl dX8_makesLoop_48 ?_
  refine aw_bipush (v := 12) (by decide) dX8_makesLoop_49 ?_
  refine aw_icmp_ge (tgt := 70) (by decide) dX8_makesLoop_51 (fun z => absurd z (by decide)) (fun _ => ?_)
  refine aw_aload_n (x := ad 14 0 0) rfl dX8_makesLoop_54 ?_
  refine aw_iload_n (x := (nI n)) rfl dX8_makesLoop_55 ?_
  refine aw_bipush (v := 8) (by decide) dX8_makesLoop_56 ?_
  refine aw_iload_n (x := 5) rfl dX8_makesLoop_58 ?_
  refine aw_iaddz (z := 13) (by decide) dX8_makesLoop_59 ?_
  refine aw_iconst (v := 1) (by decide) dX8_makesLoop_60 ?_
  refine aw_rV (As := [.int (nI n), .int 13, .int 1]) (S := []) (v := none) (o2 := (wd_w (wd_w (wd_w (wd_w (wd_w (wd_w (wd_w (wd_w (wd_w (wd_w (wd_w o 8 0 (nI (n + 1))) 8 (20 * n + 3) (-1)) 8 (20 * n + 4) (-1)) 8 (20 * n + 5) (-1)) 8 (20 * n + 7) (-1)) 8 (20 * n + 9) 1) 8 (20 * n + 10) 1) 8 (20 * n + 11) 1) 8 (20 * n + 12) 1) 8 (20 * n + 13) 1) 8 (20 * n + 14) 1)) (ct_X8_put (l := n) (w := 13) (by omega) (by decide)) (mm_fit_of cbX8_put (by decide) (by decide)) wq888 cvX8_put wv14 rfl rfl rfl (Nat.le_of_ble_eq_true rfl) (by decide) (by decide) rfl dX8_makesLoop_61 ?_
  refine aw_iinc (n := 1) (x := 5) (v := 6) (L2 := [some (.ref (ad 14 0 0)), some (.int (nI n)), some (.int 6)]) rfl (by decide) (by decide) rfl rfl dX8_makesLoop_64 ?_
  refine aw_goto (tgt := 48) (by decide) dX8_makesLoop_67 ?_
  refine aw_iload_n (x := 6) rfl dX8_makesLoop_48 ?_
  refine aw_bipush (v := 12) (by decide) dX8_makesLoop_49 ?_
  refine aw_icmp_ge (tgt := 70) (by decide) dX8_makesLoop_51 (fun z => absurd z (by decide)) (fun _ => ?_)
  refine aw_aload_n (x := ad 14 0 0) rfl dX8_makesLoop_54 ?_
  refine aw_iload_n (x := (nI n)) rfl dX8_makesLoop_55 ?_
  refine aw_bipush (v := 8) (by decide) dX8_makesLoop_56 ?_
  refine aw_iload_n (x := 6) rfl dX8_makesLoop_58 ?_
  refine aw_iaddz (z := 14) (by decide) dX8_makesLoop_59 ?_
  refine aw_iconst (v := 1) (by decide) dX8_makesLoop_60 ?_
  refine aw_rV (As := [.int (nI n), .int 14, .int 1]) (S := []) (v := none) (o2 := (wd_w (wd_w (wd_w (wd_w (wd_w (wd_w (wd_w (wd_w (wd_w (wd_w (wd_w (wd_w o 8 0 (nI (n + 1))) 8 (20 * n + 3) (-1)) 8 (20 * n + 4) (-1)) 8 (20 * n + 5) (-1)) 8 (20 * n + 7) (-1)) 8 (20 * n + 9) 1) 8 (20 * n + 10) 1) 8 (20 * n + 11) 1) 8 (20 * n + 12) 1) 8 (20 * n + 13) 1) 8 (20 * n + 14) 1) 8 (20 * n + 15) 1)) (ct_X8_put (l := n) (w := 14) (by omega) (by decide)) (mm_fit_of cbX8_put (by decide) (by decide)) wq888 cvX8_put wv14 rfl rfl rfl (Nat.le_of_ble_eq_true rfl) (by decide) (by decide) rfl dX8_makesLoop_61 ?_
  refine aw_iinc (n := 1) (x := 6) (v := 7) (L2 := [some (.ref (ad 14 0 0)), some (.int (nI n)), some (.int 7)]) rfl (by decide) (by decide) rfl rfl dX8_makesLoop_64 ?_
  refine aw_goto (tgt := 48) (by decide) dX8_makesLoop_67 ?_
  refine aw_iload_n (x := 7) rfl dX8_makesLoop_48 ?_
  refine aw_bipush (v := 12) (by decide) dX8_makesLoop_49 ?_
  refine aw_icmp_ge (tgt := 70) (by decide) dX8_makesLoop_51 (fun z => absurd z (by decide)) (fun _ => ?_)
  refine aw_aload_n (x := ad 14 0 0) rfl dX8_makesLoop_54 ?_
  refine aw_iload_n (x := (nI n)) rfl dX8_makesLoop_55 ?_
  refine aw_bipush (v := 8) (by decide) dX8_makesLoop_56 ?_
  refine aw_iload_n (x := 7) rfl dX8_makesLoop_58 ?_
  refine aw_iaddz (z := 15) (by decide) dX8_makesLoop_59 ?_
  refine aw_iconst (v := 1) (by decide) dX8_makesLoop_60 ?_
  refine aw_rV (As := [.int (nI n), .int 15, .int 1]) (S := []) (v := none) (o2 := (wd_w (wd_w (wd_w (wd_w (wd_w (wd_w (wd_w (wd_w (wd_w (wd_w (wd_w (wd_w (wd_w o 8 0 (nI (n + 1))) 8 (20 * n + 3) (-1)) 8 (20 * n + 4) (-1)) 8 (20 * n + 5) (-1)) 8 (20 * n + 7) (-1)) 8 (20 * n + 9) 1) 8 (20 * n + 10) 1) 8 (20 * n + 11) 1) 8 (20 * n + 12) 1) 8 (20 * n + 13) 1) 8 (20 * n + 14) 1) 8 (20 * n + 15) 1) 8 (20 * n + 16) 1)) (ct_X8_put (l := n) (w := 15) (by omega) (by decide)) (mm_fit_of cbX8_put (by decide) (by decide)) wq888 cvX8_put wv14 rfl rfl rfl (Nat.le_of_ble_eq_true rfl) (by decide) (by decide) rfl dX8_makesLoop_61 ?_
  refine aw_iinc (n := 1) (x := 7) (v := 8) (L2 := [some (.ref (ad 14 0 0)), some (.int (nI n)), some (.int 8)]) rfl (by decide) (by decide) rfl rfl dX8_makesLoop_64 ?_
  refine aw_goto (tgt := 48) (by decide) dX8_makesLoop_67 ?_
  refine aw_iload_n (x := 8) rfl dX8_makesLoop_48 ?_
  refine aw_bipush (v := 12) (by decide) dX8_makesLoop_49 ?_
  refine aw_icmp_ge (tgt := 70) (by decide) dX8_makesLoop_51 (fun z => absurd z (by decide)) (fun _ => ?_)
  refine aw_aload_n (x := ad 14 0 0) rfl dX8_makesLoop_54 ?_
  refine aw_iload_n (x := (nI n)) rfl dX8_makesLoop_55 ?_
  refine aw_bipush (v := 8) (by decide) dX8_makesLoop_56 ?_
  refine aw_iload_n (x := 8) rfl dX8_makesLoop_58 ?_
  refine aw_iaddz (z := 16) (by decide) dX8_makesLoop_59 ?_
  refine aw_iconst (v := 1) (by decide) dX8_makesLoop_60 ?_
  refine aw_rV (As := [.int (nI n), .int 16, .int 1]) (S := []) (v := none) (o2 := (wd_w (wd_w (wd_w (wd_w (wd_w (wd_w (wd_w (wd_w (wd_w (wd_w (wd_w (wd_w (wd_w (wd_w o 8 0 (nI (n + 1))) 8 (20 * n + 3) (-1)) 8 (20 * n + 4) (-1)) 8 (20 * n + 5) (-1)) 8 (20 * n + 7) (-1)) 8 (20 * n + 9) 1) 8 (20 * n + 10) 1) 8 (20 * n + 11) 1) 8 (20 * n + 12) 1) 8 (20 * n + 13) 1) 8 (20 * n + 14) 1) 8 (20 * n + 15) 1) 8 (20 * n + 16) 1) 8 (20 * n + 17) 1)) (ct_X8_put (l := n) (w := 16) (by omega) (by decide)) (mm_fit_of cbX8_put (by decide) (by decide)) wq888 cvX8_put wv14 rfl rfl rfl (Nat.le_of_ble_eq_true rfl) (by decide) (by decide) rfl dX8_makesLoop_61 ?_
  refine aw_iinc (n := 1) (x := 8) (v := 9) (L2 := [some (.ref (ad 14 0 0)), some (.int (nI n)), some (.int 9)]) rfl (by decide) (by decide) rfl rfl dX8_makesLoop_64 ?_
  refine aw_goto (tgt := 48) (by decide) dX8_makesLoop_67 ?_
  refine aw_iload_n (x := 9) rfl dX8_makesLoop_48 ?_
  refine aw_bipush (v := 12) (by decide) dX8_makesLoop_49 ?_
  refine aw_icmp_ge (tgt := 70) (by decide) dX8_makesLoop_51 (fun z => absurd z (by decide)) (fun _ => ?_)
  refine aw_aload_n (x := ad 14 0 0) rfl dX8_makesLoop_54 ?_
  refine aw_iload_n (x := (nI n)) rfl dX8_makesLoop_55 ?_
  refine aw_bipush (v := 8) (by decide) dX8_makesLoop_56 ?_
  refine aw_iload_n (x := 9) rfl dX8_makesLoop_58 ?_
  refine aw_iaddz (z := 17) (by decide) dX8_makesLoop_59 ?_
  refine aw_iconst (v := 1) (by decide) dX8_makesLoop_60 ?_
  refine aw_rV (As := [.int (nI n), .int 17, .int 1]) (S := []) (v := none) (o2 := (wd_w (wd_w (wd_w (wd_w (wd_w (wd_w (wd_w (wd_w (wd_w (wd_w (wd_w (wd_w (wd_w (wd_w (wd_w o 8 0 (nI (n + 1))) 8 (20 * n + 3) (-1)) 8 (20 * n + 4) (-1)) 8 (20 * n + 5) (-1)) 8 (20 * n + 7) (-1)) 8 (20 * n + 9) 1) 8 (20 * n + 10) 1) 8 (20 * n + 11) 1) 8 (20 * n + 12) 1) 8 (20 * n + 13) 1) 8 (20 * n + 14) 1) 8 (20 * n + 15) 1) 8 (20 * n + 16) 1) 8 (20 * n + 17) 1) 8 (20 * n + 18) 1)) (ct_X8_put (l := n) (w := 17) (by omega) (by decide)) (mm_fit_of cbX8_put (by decide) (by decide)) wq888 cvX8_put wv14 rfl rfl rfl (Nat.le_of_ble_eq_true rfl) (by decide) (by decide) rfl dX8_makesLoop_61 ?_
  refine aw_iinc (n := 1) (x := 9) (v := 10) (L2 := [some (.ref (ad 14 0 0)), some (.int (nI n)), some (.int 10)]) rfl (by decide) (by decide) rfl rfl dX8_makesLoop_64 ?_
  refine aw_goto (tgt := 48) (by decide) dX8_makesLoop_67 ?_
  refine aw_iload_n (x := 10) rfl dX8_makesLoop_48 ?_
  refine aw_bipush (v := 12) (by decide) dX8_makesLoop_49 ?_
  refine aw_icmp_ge (tgt := 70) (by decide) dX8_makesLoop_51 (fun z => absurd z (by decide)) (fun _ => ?_)
  refine aw_aload_n (x := ad 14 0 0) rfl dX8_makesLoop_54 ?_
  refine aw_iload_n (x := (nI n)) rfl dX8_makesLoop_55 ?_
  refine aw_bipush (v := 8) (by decide) dX8_makesLoop_56 ?_
  refine aw_iload_n (x := 10) rfl dX8_makesLoop_58 ?_
  refine aw_iaddz (z := 18) (by decide) dX8_makesLoop_59 ?_
  refine aw_iconst (v := 1) (by decide) dX8_makesLoop_60 ?_
  refine aw_rV (As := [.int (nI n), .int 18, .int 1]) (S := []) (v := none) (o2 := (wd_w (wd_w (wd_w (wd_w (wd_w (wd_w (wd_w (wd_w (wd_w (wd_w (wd_w (wd_w (wd_w (wd_w (wd_w (wd_w o 8 0 (nI (n + 1))) 8 (20 * n + 3) (-1)) 8 (20 * n + 4) (-1)) 8 (20 * n + 5) (-1)) 8 (20 * n + 7) (-1)) 8 (20 * n + 9) 1) 8 (20 * n + 10) 1) 8 (20 * n + 11) 1) 8 (20 * n + 12) 1) 8 (20 * n + 13) 1) 8 (20 * n + 14) 1) 8 (20 * n + 15) 1) 8 (20 * n + 16) 1) 8 (20 * n + 17) 1) 8 (20 * n + 18) 1) 8 (20 * n + 19) 1)) (ct_X8_put (l := n) (w := 18) (by omega) (by decide)) (mm_fit_of cbX8_put (by decide) (by decide)) wq888 cvX8_put wv14 rfl rfl rfl (Nat.le_of_ble_eq_true rfl) (by decide) (by decide) rfl dX8_makesLoop_61 ?_
  refine aw_iinc (n := 1) (x := 10) (v := 11) (L2 := [some (.ref (ad 14 0 0)), some (.int (nI n)), some (.int 11)]) rfl (by decide) (by decide) rfl rfl dX8_makesLoop_64 ?_
  refine aw_goto (tgt := 48) (by decide) dX8_makesLoop_67 ?_
  refine aw_iload_n (x := 11) rfl dX8_makesLoop_48 ?_
  refine aw_bipush (v := 12) (by decide) dX8_makesLoop_49 ?_
  refine aw_icmp_ge (tgt := 70) (by decide) dX8_makesLoop_51 (fun z => absurd z (by decide)) (fun _ => ?_)
  refine aw_aload_n (x := ad 14 0 0) rfl dX8_makesLoop_54 ?_
  refine aw_iload_n (x := (nI n)) rfl dX8_makesLoop_55 ?_
  refine aw_bipush (v := 8) (by decide) dX8_makesLoop_56 ?_
  refine aw_iload_n (x := 11) rfl dX8_makesLoop_58 ?_
  refine aw_iaddz (z := 19) (by decide) dX8_makesLoop_59 ?_
  refine aw_iconst (v := 1) (by decide) dX8_makesLoop_60 ?_
  refine aw_rV (As := [.int (nI n), .int 19, .int 1]) (S := []) (v := none) (o2 := (wd_w (wd_w (wd_w (wd_w (wd_w (wd_w (wd_w (wd_w (wd_w (wd_w (wd_w (wd_w (wd_w (wd_w (wd_w (wd_w (wd_w o 8 0 (nI (n + 1))) 8 (20 * n + 3) (-1)) 8 (20 * n + 4) (-1)) 8 (20 * n + 5) (-1)) 8 (20 * n + 7) (-1)) 8 (20 * n + 9) 1) 8 (20 * n + 10) 1) 8 (20 * n + 11) 1) 8 (20 * n + 12) 1) 8 (20 * n + 13) 1) 8 (20 * n + 14) 1) 8 (20 * n + 15) 1) 8 (20 * n + 16) 1) 8 (20 * n + 17) 1) 8 (20 * n + 18) 1) 8 (20 * n + 19) 1) 8 (20 * n + 20) 1)) (ct_X8_put (l := n) (w := 19) (by omega) (by decide)) (mm_fit_of cbX8_put (by decide) (by decide)) wq888 cvX8_put wv14 rfl rfl rfl (Nat.le_of_ble_eq_true rfl) (by decide) (by decide) rfl dX8_makesLoop_61 ?_
  refine aw_iinc (n := 1) (x := 11) (v := 12) (L2 := [some (.ref (ad 14 0 0)), some (.int (nI n)), some (.int 12)]) rfl (by decide) (by decide) rfl rfl dX8_makesLoop_64 ?_
  refine aw_goto (tgt := 48) (by decide) dX8_makesLoop_67 ?_
  refine aw_iload_n (x := 12) rfl dX8_makesLoop_48 ?_
  refine aw_bipush (v := 12) (by decide) dX8_makesLoop_49 ?_
  refine aw_icmp_ge (tgt := 70) (by decide) dX8_makesLoop_51 (fun _ => ?_) (fun z => absurd z (by decide))
  exact aw_vret rfl (by decide) (by decide) dX8_makesLoop_70 ⟨rfl, by (first | with_reducible rfl | (simp [mf_open, oI, mR, wd_w_row, row_self, row_row]; done) | (simp_all [mf_open, oI, mR, wd_w_row, row_self, row_row]; done))⟩
