/-! the reference: ticks, limits, codes -/
theorem gt_nlt {t : Int32} {k : Nat} (hk : k < 1000) (h : t > nI k) : ¬ t < nI (k + 1) := by
  rw [gt_ge hk] at h
  exact Int32.not_lt.mpr h
def rf_tick (o : wd_S) (n m c t : Nat) : Out := oI (sumF (mf_use (mf_ticks n m t (o.1 8))) n 0) (wd_row (mS o c) 8 (mf_ticks n m t (o.1 8)))
theorem rt_tick {ad : Nat → Nat → Nat → Nat} {o : wd_S} {n m c : Nat} (V : mv o n m c) {Q : (Nat → Int32) → Prop} (hQ : ∀ N, Q N → mi N n m) (hS : ∀ N l, l < n → Q N → Q (mf_go N m l)) (hT : ∀ N, Q N → Q (mf_tims n 0 N)) (q0 : Q (o.1 8)) {t : Nat} (h1 : 1 ≤ t) (ht : t ≤ 200) : CT ad MX8_tick [.ref (ad 14 0 0), .int (nI t)] o (OT (rf_tick o n m c t)) := by
  obtain ⟨G, hk, hc⟩ := id V
  obtain ⟨g1, g2, g3, g4, g5, g6⟩ := id G
  refine CT.of (L := [some (.ref (ad 14 0 0)), some (.int (nI t)), none, none]) rfl rfl (by decide) (Nat.le_of_ble_eq_true rfl) rfl ?_
  refine aw_aload_n (x := ad 14 0 0) rfl dX8_tick_0 ?_
  refine aw_aload_n (x := ad 14 0 0) rfl dX8_tick_1 ?_
  refine aw_iload_n (x := (nI t)) rfl dX8_tick_2 ?_
  refine aw_iconst (v := 1) (by decide) dX8_tick_3 ?_
  refine aw_sipush (v := 200) (by decide) dX8_tick_4 ?_
  refine aw_rS (As := [.int (nI t), .int 1, .int 200]) (S := [.ref (ad 14 0 0), .ref (ad 14 0 0)]) (v := some (.int 1)) (o2 := o) (ct_within_in (nI_nlt (b := 1) h1 (by omega)) (nI_nlt (a := 200) ht (by decide))) (mm_fit_of cbX8_within (by decide) (by decide)) wq938 wq939 rfl rfl (Nat.le_of_ble_eq_true rfl) (by decide) (by decide) rfl dX8_tick_7 ?_
  refine aw_rV (As := [.int 1]) (S := [.ref (ad 14 0 0)]) (v := some (.int 0)) (o2 := o) (ct_need_1) (mm_fit_of cbX8_need (by decide) (by decide)) wq1053 cvX8_need wv14 rfl rfl rfl (Nat.le_of_ble_eq_true rfl) (by decide) (by decide) rfl dX8_tick_10 ?_
  refine aw_rV (As := [.int 0]) (S := []) (v := some (.int 0)) (o2 := (wd_w o 12 1 0)) (ct_refused_0) (mm_fit_of cbX8_refused (by decide) (by decide)) wq922 cvX8_refused wv14 rfl rfl rfl (Nat.le_of_ble_eq_true rfl) (by decide) (by decide) rfl dX8_tick_13 ?_
  obtain ⟨o1, ho1⟩ : ∃ z, z = (wd_w o 12 1 0) := ⟨_, rfl⟩
  rw [← ho1]
  have Go1 : cg (o1.1 8) n m := by rw [ho1]; rw [wd_w_row, row_ne _ _ (by decide)]; exact G
  refine aw_if_eq (tgt := 21) (by decide) dX8_tick_16 (fun _ => ?_) (fun z => absurd z (by decide))
  refine aw_aload_n (x := ad 14 0 0) rfl dX8_tick_21 ?_
  refine aw_rV (As := []) (S := []) (v := none) (o2 := (ms_sv o1 c)) (ct_X8_saves (by rw [ho1, wd_get, if_neg (by decide)]; exact hk) hc) (mm_fit_of cbX8_saves (by decide) (by decide)) wq930 cvX8_saves wv14 rfl rfl rfl (Nat.le_of_ble_eq_true rfl) (by decide) (by decide) rfl dX8_tick_22 ?_
  obtain ⟨o2, ho2⟩ : ∃ z, z = (ms_sv o1 c) := ⟨_, rfl⟩
  rw [← ho2]
  have Go2 : cg (o2.1 8) n m := by rw [ho2]; rw [msv_ne (by decide) (by decide)]; exact Go1
  refine aw_iconst (v := 0) (by decide) dX8_tick_25 ?_
  refine aw_istore_n (L2 := [some (.ref (ad 14 0 0)), some (.int (nI t)), some (.int 0), none]) (by decide) rfl rfl dX8_tick_26 ?_
  have E8 : o2.1 8 = o.1 8 := by rw [ho2, msv_ne (by decide) (by decide), ho1, wd_w_row, row_ne _ _ (by decide)]
  refine AW.post (AW.locs (lp_ticks hQ hS hT ht t 0 o2 (by omega) (by rw [E8]; exact q0)) (lsub_keep (lsub_keep (lsub_keep (lsub_keep lsub_nil))))) (fun r o2 q => ?_)
  rw [E8] at q
  subst ho2; subst ho1; exact q
theorem rt_tick_bad {ad : Nat → Nat → Nat → Nat} {o : wd_S} {n m c : Nat} (V : mv o n m c) {x : Int32} (hb : x < 1 ∨ x > 200) : CT ad MX8_tick [.ref (ad 14 0 0), .int x] o (OT (mR 1 o)) := by
  obtain ⟨G, hk, hc⟩ := id V
  obtain ⟨g1, g2, g3, g4, g5, g6⟩ := id G
  refine CT.of (L := [some (.ref (ad 14 0 0)), some (.int x), none, none]) rfl rfl (by decide) (Nat.le_of_ble_eq_true rfl) rfl ?_
  refine aw_aload_n (x := ad 14 0 0) rfl dX8_tick_0 ?_
  refine aw_aload_n (x := ad 14 0 0) rfl dX8_tick_1 ?_
  refine aw_iload_n (x := x) rfl dX8_tick_2 ?_
  refine aw_iconst (v := 1) (by decide) dX8_tick_3 ?_
  refine aw_sipush (v := 200) (by decide) dX8_tick_4 ?_
  refine aw_rS (As := [.int x, .int 1, .int 200]) (S := [.ref (ad 14 0 0), .ref (ad 14 0 0)]) (v := some (.int 0)) (o2 := o) (by rcases hb with h | h; exact ct_within_lo h; exact ct_within_hi h) (mm_fit_of cbX8_within (by decide) (by decide)) wq938 wq939 rfl rfl (Nat.le_of_ble_eq_true rfl) (by decide) (by decide) rfl dX8_tick_7 ?_
  refine aw_rV (As := [.int 0]) (S := [.ref (ad 14 0 0)]) (v := some (.int 1)) (o2 := o) (ct_need_0) (mm_fit_of cbX8_need (by decide) (by decide)) wq1053 cvX8_need wv14 rfl rfl rfl (Nat.le_of_ble_eq_true rfl) (by decide) (by decide) rfl dX8_tick_10 ?_
  refine aw_rV (As := [.int 1]) (S := []) (v := some (.int 1)) (o2 := (wd_w o 12 1 1)) (ct_refused_p (by decide)) (mm_fit_of cbX8_refused (by decide) (by decide)) wq922 cvX8_refused wv14 rfl rfl rfl (Nat.le_of_ble_eq_true rfl) (by decide) (by decide) rfl dX8_tick_13 ?_
  obtain ⟨o1, ho1⟩ : ∃ z, z = (wd_w o 12 1 1) := ⟨_, rfl⟩
  rw [← ho1]
  have Go1 : cg (o1.1 8) n m := by rw [ho1]; rw [wd_w_row, row_ne _ _ (by decide)]; exact G
  refine aw_if_eq (tgt := 21) (by decide) dX8_tick_16 (fun z => absurd z (by decide)) (fun _ => ?_)
  refine aw_iconst (v := 0) (by decide) dX8_tick_19 ?_
  exact aw_iret rfl (by decide) (by decide) dX8_tick_20 ⟨by (subst ho1; first | with_reducible rfl | (simp [mS, mS_8, oI, mR, oI, mR, wd_w_row, row_self, row_row]; done) | (simp_all [mS, mS_8, oI, mR, oI, mR, wd_w_row, row_self, row_row]; done) | (simp only [wd_w_row, row_self, row_row, i32_add0, row_ne _ _ (show (8 : Nat) ≠ 12 by decide)] at *; simp [mS, mS_8, oI, mR, oI, mR, wd_w_row, row_self, row_row]; done)), by (subst ho1; first | with_reducible rfl | (simp [mS, mS_8, oI, mR, oI, mR, wd_w_row, row_self, row_row]; done) | (simp_all [mS, mS_8, oI, mR, oI, mR, wd_w_row, row_self, row_row]; done) | (simp only [wd_w_row, row_self, row_row, i32_add0, row_ne _ _ (show (8 : Nat) ≠ 12 by decide)] at *; simp [mS, mS_8, oI, mR, oI, mR, wd_w_row, row_self, row_row]; done))⟩
def rf_limit (o : wd_S) (c : Nat) (x : Int32) : Out := if x < 10 then mR 1 o else if x > 200 then mR 1 o else oI (o.1 8 230) (wd_row (mS o c) 8 (upd (o.1 8) 230 x))
theorem rt_limit {ad : Nat → Nat → Nat → Nat} {o : wd_S} {n m c : Nat} (V : mv o n m c) {x : Int32} : CT ad MX8_setLimit [.ref (ad 14 0 0), .int x] o (OT (rf_limit o c x)) := by
  obtain ⟨G, hk, hc⟩ := id V
  obtain ⟨g1, g2, g3, g4, g5, g6⟩ := id G
  refine CT.of (L := [some (.ref (ad 14 0 0)), some (.int x), none]) rfl rfl (by decide) (Nat.le_of_ble_eq_true rfl) rfl ?_
  refine aw_aload_n (x := ad 14 0 0) rfl dX8_setLimit_0 ?_
  refine aw_aload_n (x := ad 14 0 0) rfl dX8_setLimit_1 ?_
  refine aw_iload_n (x := x) rfl dX8_setLimit_2 ?_
  refine aw_bipush (v := 10) (by decide) dX8_setLimit_3 ?_
  refine aw_sipush (v := 200) (by decide) dX8_setLimit_5 ?_
  by_cases w1 : x < 10
  · skip
    refine aw_rS (As := [.int x, .int 10, .int 200]) (S := [.ref (ad 14 0 0), .ref (ad 14 0 0)]) (v := some (.int 0)) (o2 := o) (ct_within_lo w1) (mm_fit_of cbX8_within (by decide) (by decide)) wq938 wq939 rfl rfl (Nat.le_of_ble_eq_true rfl) (by decide) (by decide) rfl dX8_setLimit_8 ?_
    refine aw_rV (As := [.int 0]) (S := [.ref (ad 14 0 0)]) (v := some (.int 1)) (o2 := o) (ct_need_0) (mm_fit_of cbX8_need (by decide) (by decide)) wq1053 cvX8_need wv14 rfl rfl rfl (Nat.le_of_ble_eq_true rfl) (by decide) (by decide) rfl dX8_setLimit_11 ?_
    refine aw_rV (As := [.int 1]) (S := []) (v := some (.int 1)) (o2 := (wd_w o 12 1 1)) (ct_refused_p (by decide)) (mm_fit_of cbX8_refused (by decide) (by decide)) wq922 cvX8_refused wv14 rfl rfl rfl (Nat.le_of_ble_eq_true rfl) (by decide) (by decide) rfl dX8_setLimit_14 ?_
    obtain ⟨o1, ho1⟩ : ∃ z, z = (wd_w o 12 1 1) := ⟨_, rfl⟩
    rw [← ho1]
    have Go1 : cg (o1.1 8) n m := by rw [ho1]; rw [wd_w_row, row_ne _ _ (by decide)]; exact G
    refine aw_if_eq (tgt := 22) (by decide) dX8_setLimit_17 (fun z => absurd z (by decide)) (fun _ => ?_)
    refine aw_iconst (v := 0) (by decide) dX8_setLimit_20 ?_
    exact aw_iret rfl (by decide) (by decide) dX8_setLimit_21 ⟨by (subst ho1; first | with_reducible rfl | (simp [rf_limit, mS, mS_8, oI, mR, oI, mR, wd_w_row, row_self, row_row, w1]; done) | (simp_all [rf_limit, mS, mS_8, oI, mR, oI, mR, wd_w_row, row_self, row_row, w1]; done) | (simp only [wd_w_row, row_self, row_row, i32_add0, row_ne _ _ (show (8 : Nat) ≠ 12 by decide)] at *; simp [rf_limit, mS, mS_8, oI, mR, oI, mR, wd_w_row, row_self, row_row, w1]; done)), by (subst ho1; first | with_reducible rfl | (simp [rf_limit, mS, mS_8, oI, mR, oI, mR, wd_w_row, row_self, row_row, w1]; done) | (simp_all [rf_limit, mS, mS_8, oI, mR, oI, mR, wd_w_row, row_self, row_row, w1]; done) | (simp only [wd_w_row, row_self, row_row, i32_add0, row_ne _ _ (show (8 : Nat) ≠ 12 by decide)] at *; simp [rf_limit, mS, mS_8, oI, mR, oI, mR, wd_w_row, row_self, row_row, w1]; done))⟩
  · skip
    by_cases zw1 : x > 200
    · skip
      refine aw_rS (As := [.int x, .int 10, .int 200]) (S := [.ref (ad 14 0 0), .ref (ad 14 0 0)]) (v := some (.int 0)) (o2 := o) (ct_within_hi zw1) (mm_fit_of cbX8_within (by decide) (by decide)) wq938 wq939 rfl rfl (Nat.le_of_ble_eq_true rfl) (by decide) (by decide) rfl dX8_setLimit_8 ?_
      refine aw_rV (As := [.int 0]) (S := [.ref (ad 14 0 0)]) (v := some (.int 1)) (o2 := o) (ct_need_0) (mm_fit_of cbX8_need (by decide) (by decide)) wq1053 cvX8_need wv14 rfl rfl rfl (Nat.le_of_ble_eq_true rfl) (by decide) (by decide) rfl dX8_setLimit_11 ?_
      refine aw_rV (As := [.int 1]) (S := []) (v := some (.int 1)) (o2 := (wd_w o 12 1 1)) (ct_refused_p (by decide)) (mm_fit_of cbX8_refused (by decide) (by decide)) wq922 cvX8_refused wv14 rfl rfl rfl (Nat.le_of_ble_eq_true rfl) (by decide) (by decide) rfl dX8_setLimit_14 ?_
      obtain ⟨o2, ho2⟩ : ∃ z, z = (wd_w o 12 1 1) := ⟨_, rfl⟩
      rw [← ho2]
      have Go2 : cg (o2.1 8) n m := by rw [ho2]; rw [wd_w_row, row_ne _ _ (by decide)]; exact G
      refine aw_if_eq (tgt := 22) (by decide) dX8_setLimit_17 (fun z => absurd z (by decide)) (fun _ => ?_)
      refine aw_iconst (v := 0) (by decide) dX8_setLimit_20 ?_
      exact aw_iret rfl (by decide) (by decide) dX8_setLimit_21 ⟨by (subst ho2; first | with_reducible rfl | (simp [rf_limit, mS, mS_8, oI, mR, oI, mR, wd_w_row, row_self, row_row, w1, zw1]; done) | (simp_all [rf_limit, mS, mS_8, oI, mR, oI, mR, wd_w_row, row_self, row_row, w1, zw1]; done) | (simp only [wd_w_row, row_self, row_row, i32_add0, row_ne _ _ (show (8 : Nat) ≠ 12 by decide)] at *; simp [rf_limit, mS, mS_8, oI, mR, oI, mR, wd_w_row, row_self, row_row, w1, zw1]; done)), by (subst ho2; first | with_reducible rfl | (simp [rf_limit, mS, mS_8, oI, mR, oI, mR, wd_w_row, row_self, row_row, w1, zw1]; done) | (simp_all [rf_limit, mS, mS_8, oI, mR, oI, mR, wd_w_row, row_self, row_row, w1, zw1]; done) | (simp only [wd_w_row, row_self, row_row, i32_add0, row_ne _ _ (show (8 : Nat) ≠ 12 by decide)] at *; simp [rf_limit, mS, mS_8, oI, mR, oI, mR, wd_w_row, row_self, row_row, w1, zw1]; done))⟩
    · skip
      refine aw_rS (As := [.int x, .int 10, .int 200]) (S := [.ref (ad 14 0 0), .ref (ad 14 0 0)]) (v := some (.int 1)) (o2 := o) (ct_within_in w1 zw1) (mm_fit_of cbX8_within (by decide) (by decide)) wq938 wq939 rfl rfl (Nat.le_of_ble_eq_true rfl) (by decide) (by decide) rfl dX8_setLimit_8 ?_
      refine aw_rV (As := [.int 1]) (S := [.ref (ad 14 0 0)]) (v := some (.int 0)) (o2 := o) (ct_need_1) (mm_fit_of cbX8_need (by decide) (by decide)) wq1053 cvX8_need wv14 rfl rfl rfl (Nat.le_of_ble_eq_true rfl) (by decide) (by decide) rfl dX8_setLimit_11 ?_
      refine aw_rV (As := [.int 0]) (S := []) (v := some (.int 0)) (o2 := (wd_w o 12 1 0)) (ct_refused_0) (mm_fit_of cbX8_refused (by decide) (by decide)) wq922 cvX8_refused wv14 rfl rfl rfl (Nat.le_of_ble_eq_true rfl) (by decide) (by decide) rfl dX8_setLimit_14 ?_
      obtain ⟨o3, ho3⟩ : ∃ z, z = (wd_w o 12 1 0) := ⟨_, rfl⟩
      rw [← ho3]
      have Go3 : cg (o3.1 8) n m := by rw [ho3]; rw [wd_w_row, row_ne _ _ (by decide)]; exact G
      refine aw_if_eq (tgt := 22) (by decide) dX8_setLimit_17 (fun _ => ?_) (fun z => absurd z (by decide))
      refine aw_aload_n (x := ad 14 0 0) rfl dX8_setLimit_22 ?_
      refine aw_rV (As := []) (S := []) (v := none) (o2 := (ms_sv o3 c)) (ct_X8_saves (by rw [ho3, wd_get, if_neg (by decide)]; exact hk) hc) (mm_fit_of cbX8_saves (by decide) (by decide)) wq930 cvX8_saves wv14 rfl rfl rfl (Nat.le_of_ble_eq_true rfl) (by decide) (by decide) rfl dX8_setLimit_23 ?_
      obtain ⟨o4, ho4⟩ : ∃ z, z = (ms_sv o3 c) := ⟨_, rfl⟩
      rw [← ho4]
      have Go4 : cg (o4.1 8) n m := by rw [ho4]; rw [msv_ne (by decide) (by decide)]; exact Go3
      refine aw_aload_n (x := ad 14 0 0) rfl dX8_setLimit_26 ?_
      refine aw_getr (q := (15, 0, 0)) wv14 rfl flX8_7 rfl rfl dX8_setLimit_27 ?_
      refine aw_sipush (v := 230) (by decide) dX8_setLimit_30 ?_
      refine aw_ild (x := 230) (q := (8, 230)) (y := o4.1 8 230) (by decide) (wv15 (by decide)) rfl rfl (Nat.le_of_ble_eq_true rfl) rfl dX8_setLimit_33 ?_
      refine aw_istore_n (L2 := [some (.ref (ad 14 0 0)), some (.int x), some (.int (o4.1 8 230))]) (by decide) rfl rfl dX8_setLimit_34 ?_
      refine aw_aload_n (x := ad 14 0 0) rfl dX8_setLimit_35 ?_
      refine aw_getr (q := (15, 0, 0)) wv14 rfl flX8_7 rfl rfl dX8_setLimit_36 ?_
      refine aw_sipush (v := 230) (by decide) dX8_setLimit_39 ?_
      refine aw_iload_n (x := x) rfl dX8_setLimit_42 ?_
      refine aw_ist (x := 230) (q := (8, 230)) (y := x) (by decide) (wv15 (by decide)) rfl (Nat.le_of_ble_eq_true rfl) rfl dX8_setLimit_43 ?_
      refine aw_iload_n (x := (o4.1 8 230)) rfl dX8_setLimit_44 ?_
      exact aw_iret rfl (by decide) (by decide) dX8_setLimit_45 ⟨by (subst ho4; subst ho3; first | with_reducible rfl | (simp [rf_limit, mS, mS_8, oI, mR, oI, mR, wd_w_row, row_self, row_row, w1, zw1]; done) | (simp_all [rf_limit, mS, mS_8, oI, mR, oI, mR, wd_w_row, row_self, row_row, w1, zw1]; done) | (simp only [wd_w_row, row_self, row_row, i32_add0, row_ne _ _ (show (8 : Nat) ≠ 12 by decide)] at *; simp [rf_limit, mS, mS_8, oI, mR, oI, mR, wd_w_row, row_self, row_row, w1, zw1]; done)), by (subst ho4; subst ho3; first | with_reducible rfl | (simp [rf_limit, mS, mS_8, oI, mR, oI, mR, wd_w_row, row_self, row_row, w1, zw1]; done) | (simp_all [rf_limit, mS, mS_8, oI, mR, oI, mR, wd_w_row, row_self, row_row, w1, zw1]; done) | (simp only [wd_w_row, row_self, row_row, i32_add0, row_ne _ _ (show (8 : Nat) ≠ 12 by decide)] at *; simp [rf_limit, mS, mS_8, oI, mR, oI, mR, wd_w_row, row_self, row_row, w1, zw1]; done))⟩
theorem rt_told_0 {ad : Nat → Nat → Nat → Nat} {o : wd_S} {n m c : Nat} (V : mv o n m c)  : CT ad MX8_told_ [.ref (ad 14 0 0), .int 0] o (OT (oI (o.1 8 231) (wd_w o 12 1 0))) := by
  obtain ⟨G, hk, hc⟩ := id V
  obtain ⟨g1, g2, g3, g4, g5, g6⟩ := id G
  refine CT.of (L := [some (.ref (ad 14 0 0)), some (.int 0)]) rfl rfl (by decide) (Nat.le_of_ble_eq_true rfl) rfl ?_
  refine aw_aload_n (x := ad 14 0 0) rfl dX8_told__0 ?_
  refine aw_aload_n (x := ad 14 0 0) rfl dX8_told__1 ?_
  refine aw_iload_n (x := 0) rfl dX8_told__2 ?_
  refine aw_iconst (v := 0) (by decide) dX8_told__3 ?_
  refine aw_iconst (v := 5) (by decide) dX8_told__4 ?_
  refine aw_rS (As := [.int 0, .int 0, .int 5]) (S := [.ref (ad 14 0 0), .ref (ad 14 0 0)]) (v := some (.int 1)) (o2 := o) (ct_within_in (by decide) (by decide)) (mm_fit_of cbX8_within (by decide) (by decide)) wq938 wq939 rfl rfl (Nat.le_of_ble_eq_true rfl) (by decide) (by decide) rfl dX8_told__5 ?_
  refine aw_rV (As := [.int 1]) (S := [.ref (ad 14 0 0)]) (v := some (.int 0)) (o2 := o) (ct_need_1) (mm_fit_of cbX8_need (by decide) (by decide)) wq1053 cvX8_need wv14 rfl rfl rfl (Nat.le_of_ble_eq_true rfl) (by decide) (by decide) rfl dX8_told__8 ?_
  refine aw_rV (As := [.int 0]) (S := []) (v := some (.int 0)) (o2 := (wd_w o 12 1 0)) (ct_refused_0) (mm_fit_of cbX8_refused (by decide) (by decide)) wq922 cvX8_refused wv14 rfl rfl rfl (Nat.le_of_ble_eq_true rfl) (by decide) (by decide) rfl dX8_told__11 ?_
  obtain ⟨o1, ho1⟩ : ∃ z, z = (wd_w o 12 1 0) := ⟨_, rfl⟩
  rw [← ho1]
  have Go1 : cg (o1.1 8) n m := by rw [ho1]; rw [wd_w_row, row_ne _ _ (by decide)]; exact G
  refine aw_if_eq (tgt := 21) (by decide) dX8_told__14 (fun _ => ?_) (fun z => absurd z (by decide))
  refine aw_aload_n (x := ad 14 0 0) rfl dX8_told__21 ?_
  refine aw_getr (q := (15, 0, 0)) wv14 rfl flX8_7 rfl rfl dX8_told__22 ?_
  refine aw_sipush (v := 231) (by decide) dX8_told__25 ?_
  refine aw_iload_n (x := 0) rfl dX8_told__28 ?_
  refine aw_iaddz (z := 231) (by decide) dX8_told__29 ?_
  refine aw_ild (x := 231) (q := (8, 231)) (y := o1.1 8 231) (by decide) (wv15 (by decide)) rfl rfl (Nat.le_of_ble_eq_true rfl) rfl dX8_told__30 ?_
  exact aw_iret rfl (by decide) (by decide) dX8_told__31 ⟨by (subst ho1; first | with_reducible rfl | (simp [row_ne _ _ (show (8 : Nat) ≠ 12 by decide), mS, mS_8, oI, mR, oI, mR, wd_w_row, row_self, row_row]; done) | (simp_all [row_ne _ _ (show (8 : Nat) ≠ 12 by decide), mS, mS_8, oI, mR, oI, mR, wd_w_row, row_self, row_row]; done) | (simp only [wd_w_row, row_self, row_row, i32_add0, row_ne _ _ (show (8 : Nat) ≠ 12 by decide)] at *; simp [row_ne _ _ (show (8 : Nat) ≠ 12 by decide), mS, mS_8, oI, mR, oI, mR, wd_w_row, row_self, row_row]; done)), by (subst ho1; first | with_reducible rfl | (simp [row_ne _ _ (show (8 : Nat) ≠ 12 by decide), mS, mS_8, oI, mR, oI, mR, wd_w_row, row_self, row_row]; done) | (simp_all [row_ne _ _ (show (8 : Nat) ≠ 12 by decide), mS, mS_8, oI, mR, oI, mR, wd_w_row, row_self, row_row]; done) | (simp only [wd_w_row, row_self, row_row, i32_add0, row_ne _ _ (show (8 : Nat) ≠ 12 by decide)] at *; simp [row_ne _ _ (show (8 : Nat) ≠ 12 by decide), mS, mS_8, oI, mR, oI, mR, wd_w_row, row_self, row_row]; done))⟩
theorem rt_told_1 {ad : Nat → Nat → Nat → Nat} {o : wd_S} {n m c : Nat} (V : mv o n m c)  : CT ad MX8_told_ [.ref (ad 14 0 0), .int 1] o (OT (oI (o.1 8 232) (wd_w o 12 1 0))) := by
  obtain ⟨G, hk, hc⟩ := id V
  obtain ⟨g1, g2, g3, g4, g5, g6⟩ := id G
  refine CT.of (L := [some (.ref (ad 14 0 0)), some (.int 1)]) rfl rfl (by decide) (Nat.le_of_ble_eq_true rfl) rfl ?_
  refine aw_aload_n (x := ad 14 0 0) rfl dX8_told__0 ?_
  refine aw_aload_n (x := ad 14 0 0) rfl dX8_told__1 ?_
  refine aw_iload_n (x := 1) rfl dX8_told__2 ?_
  refine aw_iconst (v := 0) (by decide) dX8_told__3 ?_
  refine aw_iconst (v := 5) (by decide) dX8_told__4 ?_
  refine aw_rS (As := [.int 1, .int 0, .int 5]) (S := [.ref (ad 14 0 0), .ref (ad 14 0 0)]) (v := some (.int 1)) (o2 := o) (ct_within_in (by decide) (by decide)) (mm_fit_of cbX8_within (by decide) (by decide)) wq938 wq939 rfl rfl (Nat.le_of_ble_eq_true rfl) (by decide) (by decide) rfl dX8_told__5 ?_
  refine aw_rV (As := [.int 1]) (S := [.ref (ad 14 0 0)]) (v := some (.int 0)) (o2 := o) (ct_need_1) (mm_fit_of cbX8_need (by decide) (by decide)) wq1053 cvX8_need wv14 rfl rfl rfl (Nat.le_of_ble_eq_true rfl) (by decide) (by decide) rfl dX8_told__8 ?_
  refine aw_rV (As := [.int 0]) (S := []) (v := some (.int 0)) (o2 := (wd_w o 12 1 0)) (ct_refused_0) (mm_fit_of cbX8_refused (by decide) (by decide)) wq922 cvX8_refused wv14 rfl rfl rfl (Nat.le_of_ble_eq_true rfl) (by decide) (by decide) rfl dX8_told__11 ?_
  obtain ⟨o1, ho1⟩ : ∃ z, z = (wd_w o 12 1 0) := ⟨_, rfl⟩
  rw [← ho1]
  have Go1 : cg (o1.1 8) n m := by rw [ho1]; rw [wd_w_row, row_ne _ _ (by decide)]; exact G
  refine aw_if_eq (tgt := 21) (by decide) dX8_told__14 (fun _ => ?_) (fun z => absurd z (by decide))
  refine aw_aload_n (x := ad 14 0 0) rfl dX8_told__21 ?_
  refine aw_getr (q := (15, 0, 0)) wv14 rfl flX8_7 rfl rfl dX8_told__22 ?_
  refine aw_sipush (v := 231) (by decide) dX8_told__25 ?_
  refine aw_iload_n (x := 1) rfl dX8_told__28 ?_
  refine aw_iaddz (z := 232) (by decide) dX8_told__29 ?_
  refine aw_ild (x := 232) (q := (8, 232)) (y := o1.1 8 232) (by decide) (wv15 (by decide)) rfl rfl (Nat.le_of_ble_eq_true rfl) rfl dX8_told__30 ?_
  exact aw_iret rfl (by decide) (by decide) dX8_told__31 ⟨by (subst ho1; first | with_reducible rfl | (simp [row_ne _ _ (show (8 : Nat) ≠ 12 by decide), mS, mS_8, oI, mR, oI, mR, wd_w_row, row_self, row_row]; done) | (simp_all [row_ne _ _ (show (8 : Nat) ≠ 12 by decide), mS, mS_8, oI, mR, oI, mR, wd_w_row, row_self, row_row]; done) | (simp only [wd_w_row, row_self, row_row, i32_add0, row_ne _ _ (show (8 : Nat) ≠ 12 by decide)] at *; simp [row_ne _ _ (show (8 : Nat) ≠ 12 by decide), mS, mS_8, oI, mR, oI, mR, wd_w_row, row_self, row_row]; done)), by (subst ho1; first | with_reducible rfl | (simp [row_ne _ _ (show (8 : Nat) ≠ 12 by decide), mS, mS_8, oI, mR, oI, mR, wd_w_row, row_self, row_row]; done) | (simp_all [row_ne _ _ (show (8 : Nat) ≠ 12 by decide), mS, mS_8, oI, mR, oI, mR, wd_w_row, row_self, row_row]; done) | (simp only [wd_w_row, row_self, row_row, i32_add0, row_ne _ _ (show (8 : Nat) ≠ 12 by decide)] at *; simp [row_ne _ _ (show (8 : Nat) ≠ 12 by decide), mS, mS_8, oI, mR, oI, mR, wd_w_row, row_self, row_row]; done))⟩
theorem rt_told_2 {ad : Nat → Nat → Nat → Nat} {o : wd_S} {n m c : Nat} (V : mv o n m c)  : CT ad MX8_told_ [.ref (ad 14 0 0), .int 2] o (OT (oI (o.1 8 233) (wd_w o 12 1 0))) := by
  obtain ⟨G, hk, hc⟩ := id V
  obtain ⟨g1, g2, g3, g4, g5, g6⟩ := id G
  refine CT.of (L := [some (.ref (ad 14 0 0)), some (.int 2)]) rfl rfl (by decide) (Nat.le_of_ble_eq_true rfl) rfl ?_
  refine aw_aload_n (x := ad 14 0 0) rfl dX8_told__0 ?_
  refine aw_aload_n (x := ad 14 0 0) rfl dX8_told__1 ?_
  refine aw_iload_n (x := 2) rfl dX8_told__2 ?_
  refine aw_iconst (v := 0) (by decide) dX8_told__3 ?_
  refine aw_iconst (v := 5) (by decide) dX8_told__4 ?_
  refine aw_rS (As := [.int 2, .int 0, .int 5]) (S := [.ref (ad 14 0 0), .ref (ad 14 0 0)]) (v := some (.int 1)) (o2 := o) (ct_within_in (by decide) (by decide)) (mm_fit_of cbX8_within (by decide) (by decide)) wq938 wq939 rfl rfl (Nat.le_of_ble_eq_true rfl) (by decide) (by decide) rfl dX8_told__5 ?_
  refine aw_rV (As := [.int 1]) (S := [.ref (ad 14 0 0)]) (v := some (.int 0)) (o2 := o) (ct_need_1) (mm_fit_of cbX8_need (by decide) (by decide)) wq1053 cvX8_need wv14 rfl rfl rfl (Nat.le_of_ble_eq_true rfl) (by decide) (by decide) rfl dX8_told__8 ?_
  refine aw_rV (As := [.int 0]) (S := []) (v := some (.int 0)) (o2 := (wd_w o 12 1 0)) (ct_refused_0) (mm_fit_of cbX8_refused (by decide) (by decide)) wq922 cvX8_refused wv14 rfl rfl rfl (Nat.le_of_ble_eq_true rfl) (by decide) (by decide) rfl dX8_told__11 ?_
  obtain ⟨o1, ho1⟩ : ∃ z, z = (wd_w o 12 1 0) := ⟨_, rfl⟩
  rw [← ho1]
  have Go1 : cg (o1.1 8) n m := by rw [ho1]; rw [wd_w_row, row_ne _ _ (by decide)]; exact G
  refine aw_if_eq (tgt := 21) (by decide) dX8_told__14 (fun _ => ?_) (fun z => absurd z (by decide))
  refine aw_aload_n (x := ad 14 0 0) rfl dX8_told__21 ?_
  refine aw_getr (q := (15, 0, 0)) wv14 rfl flX8_7 rfl rfl dX8_told__22 ?_
  refine aw_sipush (v := 231) (by decide) dX8_told__25 ?_
  refine aw_iload_n (x := 2) rfl dX8_told__28 ?_
  refine aw_iaddz (z := 233) (by decide) dX8_told__29 ?_
  refine aw_ild (x := 233) (q := (8, 233)) (y := o1.1 8 233) (by decide) (wv15 (by decide)) rfl rfl (Nat.le_of_ble_eq_true rfl) rfl dX8_told__30 ?_
  exact aw_iret rfl (by decide) (by decide) dX8_told__31 ⟨by (subst ho1; first | with_reducible rfl | (simp [row_ne _ _ (show (8 : Nat) ≠ 12 by decide), mS, mS_8, oI, mR, oI, mR, wd_w_row, row_self, row_row]; done) | (simp_all [row_ne _ _ (show (8 : Nat) ≠ 12 by decide), mS, mS_8, oI, mR, oI, mR, wd_w_row, row_self, row_row]; done) | (simp only [wd_w_row, row_self, row_row, i32_add0, row_ne _ _ (show (8 : Nat) ≠ 12 by decide)] at *; simp [row_ne _ _ (show (8 : Nat) ≠ 12 by decide), mS, mS_8, oI, mR, oI, mR, wd_w_row, row_self, row_row]; done)), by (subst ho1; first | with_reducible rfl | (simp [row_ne _ _ (show (8 : Nat) ≠ 12 by decide), mS, mS_8, oI, mR, oI, mR, wd_w_row, row_self, row_row]; done) | (simp_all [row_ne _ _ (show (8 : Nat) ≠ 12 by decide), mS, mS_8, oI, mR, oI, mR, wd_w_row, row_self, row_row]; done) | (simp only [wd_w_row, row_self, row_row, i32_add0, row_ne _ _ (show (8 : Nat) ≠ 12 by decide)] at *; simp [row_ne _ _ (show (8 : Nat) ≠ 12 by decide), mS, mS_8, oI, mR, oI, mR, wd_w_row, row_self, row_row]; done))⟩
theorem rt_told_3 {ad : Nat → Nat → Nat → Nat} {o : wd_S} {n m c : Nat} (V : mv o n m c)  : CT ad MX8_told_ [.ref (ad 14 0 0), .int 3] o (OT (oI (o.1 8 234) (wd_w o 12 1 0))) := by
  obtain ⟨G, hk, hc⟩ := id V
  obtain ⟨g1, g2, g3, g4, g5, g6⟩ := id G
  refine CT.of (L := [some (.ref (ad 14 0 0)), some (.int 3)]) rfl rfl (by decide) (Nat.le_of_ble_eq_true rfl) rfl ?_
  refine aw_aload_n (x := ad 14 0 0) rfl dX8_told__0 ?_
  refine aw_aload_n (x := ad 14 0 0) rfl dX8_told__1 ?_
  refine aw_iload_n (x := 3) rfl dX8_told__2 ?_
  refine aw_iconst (v := 0) (by decide) dX8_told__3 ?_
  refine aw_iconst (v := 5) (by decide) dX8_told__4 ?_
  refine aw_rS (As := [.int 3, .int 0, .int 5]) (S := [.ref (ad 14 0 0), .ref (ad 14 0 0)]) (v := some (.int 1)) (o2 := o) (ct_within_in (by decide) (by decide)) (mm_fit_of cbX8_within (by decide) (by decide)) wq938 wq939 rfl rfl (Nat.le_of_ble_eq_true rfl) (by decide) (by decide) rfl dX8_told__5 ?_
  refine aw_rV (As := [.int 1]) (S := [.ref (ad 14 0 0)]) (v := some (.int 0)) (o2 := o) (ct_need_1) (mm_fit_of cbX8_need (by decide) (by decide)) wq1053 cvX8_need wv14 rfl rfl rfl (Nat.le_of_ble_eq_true rfl) (by decide) (by decide) rfl dX8_told__8 ?_
  refine aw_rV (As := [.int 0]) (S := []) (v := some (.int 0)) (o2 := (wd_w o 12 1 0)) (ct_refused_0) (mm_fit_of cbX8_refused (by decide) (by decide)) wq922 cvX8_refused wv14 rfl rfl rfl (Nat.le_of_ble_eq_true rfl) (by decide) (by decide) rfl dX8_told__11 ?_
  obtain ⟨o1, ho1⟩ : ∃ z, z = (wd_w o 12 1 0) := ⟨_, rfl⟩
  rw [← ho1]
  have Go1 : cg (o1.1 8) n m := by rw [ho1]; rw [wd_w_row, row_ne _ _ (by decide)]; exact G
  refine aw_if_eq (tgt := 21) (by decide) dX8_told__14 (fun _ => ?_) (fun z => absurd z (by decide))
  refine aw_aload_n (x := ad 14 0 0) rfl dX8_told__21 ?_
  refine aw_getr (q := (15, 0, 0)) wv14 rfl flX8_7 rfl rfl dX8_told__22 ?_
  refine aw_sipush (v := 231) (by decide) dX8_told__25 ?_
  refine aw_iload_n (x := 3) rfl dX8_told__28 ?_
  refine aw_iaddz (z := 234) (by decide) dX8_told__29 ?_
  refine aw_ild (x := 234) (q := (8, 234)) (y := o1.1 8 234) (by decide) (wv15 (by decide)) rfl rfl (Nat.le_of_ble_eq_true rfl) rfl dX8_told__30 ?_
  exact aw_iret rfl (by decide) (by decide) dX8_told__31 ⟨by (subst ho1; first | with_reducible rfl | (simp [row_ne _ _ (show (8 : Nat) ≠ 12 by decide), mS, mS_8, oI, mR, oI, mR, wd_w_row, row_self, row_row]; done) | (simp_all [row_ne _ _ (show (8 : Nat) ≠ 12 by decide), mS, mS_8, oI, mR, oI, mR, wd_w_row, row_self, row_row]; done) | (simp only [wd_w_row, row_self, row_row, i32_add0, row_ne _ _ (show (8 : Nat) ≠ 12 by decide)] at *; simp [row_ne _ _ (show (8 : Nat) ≠ 12 by decide), mS, mS_8, oI, mR, oI, mR, wd_w_row, row_self, row_row]; done)), by (subst ho1; first | with_reducible rfl | (simp [row_ne _ _ (show (8 : Nat) ≠ 12 by decide), mS, mS_8, oI, mR, oI, mR, wd_w_row, row_self, row_row]; done) | (simp_all [row_ne _ _ (show (8 : Nat) ≠ 12 by decide), mS, mS_8, oI, mR, oI, mR, wd_w_row, row_self, row_row]; done) | (simp only [wd_w_row, row_self, row_row, i32_add0, row_ne _ _ (show (8 : Nat) ≠ 12 by decide)] at *; simp [row_ne _ _ (show (8 : Nat) ≠ 12 by decide), mS, mS_8, oI, mR, oI, mR, wd_w_row, row_self, row_row]; done))⟩
theorem rt_told_4 {ad : Nat → Nat → Nat → Nat} {o : wd_S} {n m c : Nat} (V : mv o n m c)  : CT ad MX8_told_ [.ref (ad 14 0 0), .int 4] o (OT (oI (o.1 8 235) (wd_w o 12 1 0))) := by
  obtain ⟨G, hk, hc⟩ := id V
  obtain ⟨g1, g2, g3, g4, g5, g6⟩ := id G
  refine CT.of (L := [some (.ref (ad 14 0 0)), some (.int 4)]) rfl rfl (by decide) (Nat.le_of_ble_eq_true rfl) rfl ?_
  refine aw_aload_n (x := ad 14 0 0) rfl dX8_told__0 ?_
  refine aw_aload_n (x := ad 14 0 0) rfl dX8_told__1 ?_
  refine aw_iload_n (x := 4) rfl dX8_told__2 ?_
  refine aw_iconst (v := 0) (by decide) dX8_told__3 ?_
  refine aw_iconst (v := 5) (by decide) dX8_told__4 ?_
  refine aw_rS (As := [.int 4, .int 0, .int 5]) (S := [.ref (ad 14 0 0), .ref (ad 14 0 0)]) (v := some (.int 1)) (o2 := o) (ct_within_in (by decide) (by decide)) (mm_fit_of cbX8_within (by decide) (by decide)) wq938 wq939 rfl rfl (Nat.le_of_ble_eq_true rfl) (by decide) (by decide) rfl dX8_told__5 ?_
  refine aw_rV (As := [.int 1]) (S := [.ref (ad 14 0 0)]) (v := some (.int 0)) (o2 := o) (ct_need_1) (mm_fit_of cbX8_need (by decide) (by decide)) wq1053 cvX8_need wv14 rfl rfl rfl (Nat.le_of_ble_eq_true rfl) (by decide) (by decide) rfl dX8_told__8 ?_
  refine aw_rV (As := [.int 0]) (S := []) (v := some (.int 0)) (o2 := (wd_w o 12 1 0)) (ct_refused_0) (mm_fit_of cbX8_refused (by decide) (by decide)) wq922 cvX8_refused wv14 rfl rfl rfl (Nat.le_of_ble_eq_true rfl) (by decide) (by decide) rfl dX8_told__11 ?_
  obtain ⟨o1, ho1⟩ : ∃ z, z = (wd_w o 12 1 0) := ⟨_, rfl⟩
  rw [← ho1]
  have Go1 : cg (o1.1 8) n m := by rw [ho1]; rw [wd_w_row, row_ne _ _ (by decide)]; exact G
  refine aw_if_eq (tgt := 21) (by decide) dX8_told__14 (fun _ => ?_) (fun z => absurd z (by decide))
  refine aw_aload_n (x := ad 14 0 0) rfl dX8_told__21 ?_
  refine aw_getr (q := (15, 0, 0)) wv14 rfl flX8_7 rfl rfl dX8_told__22 ?_
  refine aw_sipush (v := 231) (by decide) dX8_told__25 ?_
  refine aw_iload_n (x := 4) rfl dX8_told__28 ?_
  refine aw_iaddz (z := 235) (by decide) dX8_told__29 ?_
  refine aw_ild (x := 235) (q := (8, 235)) (y := o1.1 8 235) (by decide) (wv15 (by decide)) rfl rfl (Nat.le_of_ble_eq_true rfl) rfl dX8_told__30 ?_
  exact aw_iret rfl (by decide) (by decide) dX8_told__31 ⟨by (subst ho1; first | with_reducible rfl | (simp [row_ne _ _ (show (8 : Nat) ≠ 12 by decide), mS, mS_8, oI, mR, oI, mR, wd_w_row, row_self, row_row]; done) | (simp_all [row_ne _ _ (show (8 : Nat) ≠ 12 by decide), mS, mS_8, oI, mR, oI, mR, wd_w_row, row_self, row_row]; done) | (simp only [wd_w_row, row_self, row_row, i32_add0, row_ne _ _ (show (8 : Nat) ≠ 12 by decide)] at *; simp [row_ne _ _ (show (8 : Nat) ≠ 12 by decide), mS, mS_8, oI, mR, oI, mR, wd_w_row, row_self, row_row]; done)), by (subst ho1; first | with_reducible rfl | (simp [row_ne _ _ (show (8 : Nat) ≠ 12 by decide), mS, mS_8, oI, mR, oI, mR, wd_w_row, row_self, row_row]; done) | (simp_all [row_ne _ _ (show (8 : Nat) ≠ 12 by decide), mS, mS_8, oI, mR, oI, mR, wd_w_row, row_self, row_row]; done) | (simp only [wd_w_row, row_self, row_row, i32_add0, row_ne _ _ (show (8 : Nat) ≠ 12 by decide)] at *; simp [row_ne _ _ (show (8 : Nat) ≠ 12 by decide), mS, mS_8, oI, mR, oI, mR, wd_w_row, row_self, row_row]; done))⟩
theorem rt_told_5 {ad : Nat → Nat → Nat → Nat} {o : wd_S} {n m c : Nat} (V : mv o n m c)  : CT ad MX8_told_ [.ref (ad 14 0 0), .int 5] o (OT (oI (o.1 8 236) (wd_w o 12 1 0))) := by
  obtain ⟨G, hk, hc⟩ := id V
  obtain ⟨g1, g2, g3, g4, g5, g6⟩ := id G
  refine CT.of (L := [some (.ref (ad 14 0 0)), some (.int 5)]) rfl rfl (by decide) (Nat.le_of_ble_eq_true rfl) rfl ?_
  refine aw_aload_n (x := ad 14 0 0) rfl dX8_told__0 ?_
  refine aw_aload_n (x := ad 14 0 0) rfl dX8_told__1 ?_
  refine aw_iload_n (x := 5) rfl dX8_told__2 ?_
  refine aw_iconst (v := 0) (by decide) dX8_told__3 ?_
  refine aw_iconst (v := 5) (by decide) dX8_told__4 ?_
  refine aw_rS (As := [.int 5, .int 0, .int 5]) (S := [.ref (ad 14 0 0), .ref (ad 14 0 0)]) (v := some (.int 1)) (o2 := o) (ct_within_in (by decide) (by decide)) (mm_fit_of cbX8_within (by decide) (by decide)) wq938 wq939 rfl rfl (Nat.le_of_ble_eq_true rfl) (by decide) (by decide) rfl dX8_told__5 ?_
  refine aw_rV (As := [.int 1]) (S := [.ref (ad 14 0 0)]) (v := some (.int 0)) (o2 := o) (ct_need_1) (mm_fit_of cbX8_need (by decide) (by decide)) wq1053 cvX8_need wv14 rfl rfl rfl (Nat.le_of_ble_eq_true rfl) (by decide) (by decide) rfl dX8_told__8 ?_
  refine aw_rV (As := [.int 0]) (S := []) (v := some (.int 0)) (o2 := (wd_w o 12 1 0)) (ct_refused_0) (mm_fit_of cbX8_refused (by decide) (by decide)) wq922 cvX8_refused wv14 rfl rfl rfl (Nat.le_of_ble_eq_true rfl) (by decide) (by decide) rfl dX8_told__11 ?_
  obtain ⟨o1, ho1⟩ : ∃ z, z = (wd_w o 12 1 0) := ⟨_, rfl⟩
  rw [← ho1]
  have Go1 : cg (o1.1 8) n m := by rw [ho1]; rw [wd_w_row, row_ne _ _ (by decide)]; exact G
  refine aw_if_eq (tgt := 21) (by decide) dX8_told__14 (fun _ => ?_) (fun z => absurd z (by decide))
  refine aw_aload_n (x := ad 14 0 0) rfl dX8_told__21 ?_
  refine aw_getr (q := (15, 0, 0)) wv14 rfl flX8_7 rfl rfl dX8_told__22 ?_
  refine aw_sipush (v := 231) (by decide) dX8_told__25 ?_
  refine aw_iload_n (x := 5) rfl dX8_told__28 ?_
  refine aw_iaddz (z := 236) (by decide) dX8_told__29 ?_
  refine aw_ild (x := 236) (q := (8, 236)) (y := o1.1 8 236) (by decide) (wv15 (by decide)) rfl rfl (Nat.le_of_ble_eq_true rfl) rfl dX8_told__30 ?_
  exact aw_iret rfl (by decide) (by decide) dX8_told__31 ⟨by (subst ho1; first | with_reducible rfl | (simp [row_ne _ _ (show (8 : Nat) ≠ 12 by decide), mS, mS_8, oI, mR, oI, mR, wd_w_row, row_self, row_row]; done) | (simp_all [row_ne _ _ (show (8 : Nat) ≠ 12 by decide), mS, mS_8, oI, mR, oI, mR, wd_w_row, row_self, row_row]; done) | (simp only [wd_w_row, row_self, row_row, i32_add0, row_ne _ _ (show (8 : Nat) ≠ 12 by decide)] at *; simp [row_ne _ _ (show (8 : Nat) ≠ 12 by decide), mS, mS_8, oI, mR, oI, mR, wd_w_row, row_self, row_row]; done)), by (subst ho1; first | with_reducible rfl | (simp [row_ne _ _ (show (8 : Nat) ≠ 12 by decide), mS, mS_8, oI, mR, oI, mR, wd_w_row, row_self, row_row]; done) | (simp_all [row_ne _ _ (show (8 : Nat) ≠ 12 by decide), mS, mS_8, oI, mR, oI, mR, wd_w_row, row_self, row_row]; done) | (simp only [wd_w_row, row_self, row_row, i32_add0, row_ne _ _ (show (8 : Nat) ≠ 12 by decide)] at *; simp [row_ne _ _ (show (8 : Nat) ≠ 12 by decide), mS, mS_8, oI, mR, oI, mR, wd_w_row, row_self, row_row]; done))⟩
theorem rt_told_bad {ad : Nat → Nat → Nat → Nat} {o : wd_S} {n m c : Nat} (V : mv o n m c) {x : Int32} (hb : x < 0 ∨ x > 5) : CT ad MX8_told_ [.ref (ad 14 0 0), .int x] o (OT (mR 1 o)) := by
  obtain ⟨G, hk, hc⟩ := id V
  obtain ⟨g1, g2, g3, g4, g5, g6⟩ := id G
  refine CT.of (L := [some (.ref (ad 14 0 0)), some (.int x)]) rfl rfl (by decide) (Nat.le_of_ble_eq_true rfl) rfl ?_
  refine aw_aload_n (x := ad 14 0 0) rfl dX8_told__0 ?_
  refine aw_aload_n (x := ad 14 0 0) rfl dX8_told__1 ?_
  refine aw_iload_n (x := x) rfl dX8_told__2 ?_
  refine aw_iconst (v := 0) (by decide) dX8_told__3 ?_
  refine aw_iconst (v := 5) (by decide) dX8_told__4 ?_
  refine aw_rS (As := [.int x, .int 0, .int 5]) (S := [.ref (ad 14 0 0), .ref (ad 14 0 0)]) (v := some (.int 0)) (o2 := o) (by rcases hb with h | h; exact ct_within_lo h; exact ct_within_hi h) (mm_fit_of cbX8_within (by decide) (by decide)) wq938 wq939 rfl rfl (Nat.le_of_ble_eq_true rfl) (by decide) (by decide) rfl dX8_told__5 ?_
  refine aw_rV (As := [.int 0]) (S := [.ref (ad 14 0 0)]) (v := some (.int 1)) (o2 := o) (ct_need_0) (mm_fit_of cbX8_need (by decide) (by decide)) wq1053 cvX8_need wv14 rfl rfl rfl (Nat.le_of_ble_eq_true rfl) (by decide) (by decide) rfl dX8_told__8 ?_
  refine aw_rV (As := [.int 1]) (S := []) (v := some (.int 1)) (o2 := (wd_w o 12 1 1)) (ct_refused_p (by decide)) (mm_fit_of cbX8_refused (by decide) (by decide)) wq922 cvX8_refused wv14 rfl rfl rfl (Nat.le_of_ble_eq_true rfl) (by decide) (by decide) rfl dX8_told__11 ?_
  obtain ⟨o1, ho1⟩ : ∃ z, z = (wd_w o 12 1 1) := ⟨_, rfl⟩
  rw [← ho1]
  have Go1 : cg (o1.1 8) n m := by rw [ho1]; rw [wd_w_row, row_ne _ _ (by decide)]; exact G
  refine aw_if_eq (tgt := 21) (by decide) dX8_told__14 (fun z => absurd z (by decide)) (fun _ => ?_)
  refine aw_iconst (v := 0) (by decide) dX8_told__17 ?_
  refine aw_goto (tgt := 31) (by decide) dX8_told__18 ?_
  exact aw_iret rfl (by decide) (by decide) dX8_told__31 ⟨by (subst ho1; first | with_reducible rfl | (simp [mS, mS_8, oI, mR, oI, mR, wd_w_row, row_self, row_row]; done) | (simp_all [mS, mS_8, oI, mR, oI, mR, wd_w_row, row_self, row_row]; done) | (simp only [wd_w_row, row_self, row_row, i32_add0, row_ne _ _ (show (8 : Nat) ≠ 12 by decide)] at *; simp [mS, mS_8, oI, mR, oI, mR, wd_w_row, row_self, row_row]; done)), by (subst ho1; first | with_reducible rfl | (simp [mS, mS_8, oI, mR, oI, mR, wd_w_row, row_self, row_row]; done) | (simp_all [mS, mS_8, oI, mR, oI, mR, wd_w_row, row_self, row_row]; done) | (simp only [wd_w_row, row_self, row_row, i32_add0, row_ne _ _ (show (8 : Nat) ≠ 12 by decide)] at *; simp [mS, mS_8, oI, mR, oI, mR, wd_w_row, row_self, row_row]; done))⟩
def rem (t r : Int32) : Int32 := t - t / r * r
def mf_hr (N : Nat → Int32) (l f q : Nat) : Int32 :=
  if N (20 * l + 1) = 3 then tc_snd (N (101 + 8 * f + 3)) (N (20 * l + 2) - N (20 * l + 2) / tc_len (N (101 + 8 * f + 3)) * tc_len (N (101 + 8 * f + 3)))
  else if N (20 * l + 1) = 7 then
    (let cq := N (101 + 8 * q + 3)
     let cf := N (101 + 8 * f + 3)
     let t := N (20 * l + 2) - N (20 * l + 2) / (tc_len cf + tc_len cq) * (tc_len cf + tc_len cq)
     if t ≥ tc_len cq then tc_snd cf (t - tc_len cq) else tc_snd cq t)
  else 0
theorem ct_hr_3 {ad : Nat → Nat → Nat → Nat} {o : wd_S} {n m : Nat} (G : cg (o.1 8) n m) {l f q : Nat} (hl : l < 5) (hp : o.1 8 (20 * l + 1) = 3) (hf5 : f < m) (hf : o.1 8 (20 * l + 3) = nI f) : CT ad MX8_heardIn [.ref (ad 14 0 0), .int (nI l)] o (RT (some (.int (mf_hr (o.1 8) l f q))) o) := by
  obtain ⟨g1, g2, g3, g4, g5, g6⟩ := id G
  refine CT.of (L := [some (.ref (ad 14 0 0)), some (.int (nI l)), none, none, none]) rfl rfl (by decide) (Nat.le_of_ble_eq_true rfl) rfl ?_
  refine aw_aload_n (x := ad 14 0 0) rfl dX8_heardIn_0 ?_
  refine aw_iload_n (x := (nI l)) rfl dX8_heardIn_1 ?_
  refine aw_iconst (v := 1) (by decide) dX8_heardIn_2 ?_
  refine aw_rV (As := [.int (nI l), .int 1]) (S := []) (v := some (.int (o.1 8 (20 * l + 2)))) (o2 := o) (ct_X8_of (l := l) (w := 1) (by omega) (by decide)) (mm_fit_of cbX8_of (by decide) (by decide)) wq969 cvX8_of wv14 rfl rfl rfl (Nat.le_of_ble_eq_true rfl) (by decide) (by decide) rfl dX8_heardIn_3 ?_
  refine aw_istore_n (L2 := [some (.ref (ad 14 0 0)), some (.int (nI l)), some (.int (o.1 8 (20 * l + 2))), none, none]) (by decide) rfl rfl dX8_heardIn_6 ?_
  refine aw_aload_n (x := ad 14 0 0) rfl dX8_heardIn_7 ?_
  refine aw_iload_n (x := (nI l)) rfl dX8_heardIn_8 ?_
  refine aw_iconst (v := 0) (by decide) dX8_heardIn_9 ?_
  refine aw_rV (As := [.int (nI l), .int 0]) (S := []) (v := some (.int 3)) (o2 := o) (RTv (ct_X8_of (l := l) (w := 0) (by omega) (by decide)) hp) (mm_fit_of cbX8_of (by decide) (by decide)) wq969 cvX8_of wv14 rfl rfl rfl (Nat.le_of_ble_eq_true rfl) (by decide) (by decide) rfl dX8_heardIn_10 ?_
  refine aw_iconst (v := 3) (by decide) dX8_heardIn_13 ?_
  refine aw_icmp_ne (tgt := 40) (by decide) dX8_heardIn_14 (fun z => absurd z (by decide)) (fun _ => ?_)
  refine aw_aload_n (x := ad 14 0 0) rfl dX8_heardIn_17 ?_
  refine aw_aload_n (x := ad 14 0 0) rfl dX8_heardIn_18 ?_
  refine aw_iload_n (x := (nI l)) rfl dX8_heardIn_19 ?_
  refine aw_iconst (v := 2) (by decide) dX8_heardIn_20 ?_
  refine aw_rV (As := [.int (nI l), .int 2]) (S := [.ref (ad 14 0 0)]) (v := some (.int (nI f))) (o2 := o) (RTv (ct_X8_of (l := l) (w := 2) (by omega) (by decide)) hf) (mm_fit_of cbX8_of (by decide) (by decide)) wq969 cvX8_of wv14 rfl rfl rfl (Nat.le_of_ble_eq_true rfl) (by decide) (by decide) rfl dX8_heardIn_21 ?_
  refine aw_iconst (v := 2) (by decide) dX8_heardIn_24 ?_
  refine aw_rV (As := [.int (nI f), .int 2]) (S := []) (v := some (.int (o.1 8 (101 + 8 * f + 3)))) (o2 := o) (ct_X8_its (s := f) (w := 2) (by omega) (by decide)) (mm_fit_of cbX8_its (by decide) (by decide)) wq949 cvX8_its wv14 rfl rfl rfl (Nat.le_of_ble_eq_true rfl) (by decide) (by decide) rfl dX8_heardIn_25 ?_
  refine aw_istore_n (L2 := [some (.ref (ad 14 0 0)), some (.int (nI l)), some (.int (o.1 8 (20 * l + 2))), some (.int (o.1 8 (101 + 8 * f + 3))), none]) (by decide) rfl rfl dX8_heardIn_28 ?_
  refine aw_iload_n (x := (o.1 8 (101 + 8 * f + 3))) rfl dX8_heardIn_29 ?_
  refine aw_iload_n (x := (o.1 8 (20 * l + 2))) rfl dX8_heardIn_30 ?_
  refine aw_iload_n (x := (o.1 8 (101 + 8 * f + 3))) rfl dX8_heardIn_31 ?_
  refine aw_rS (As := [.int (o.1 8 (101 + 8 * f + 3))]) (S := [.int (o.1 8 (20 * l + 2)), .int (o.1 8 (101 + 8 * f + 3))]) (v := some (.int (tc_len (o.1 8 (101 + 8 * f + 3))))) (o2 := o) (ct_X8_lengthOf (g6 f hf5).1 (g6 f hf5).2) (mm_fit_of cbX8_lengthOf (by decide) (by decide)) wq1065 wq1066 rfl rfl (Nat.le_of_ble_eq_true rfl) (by decide) (by decide) rfl dX8_heardIn_32 ?_
  refine aw_iremz (z := (o.1 8 (20 * l + 2)) - (o.1 8 (20 * l + 2)) / (tc_len (o.1 8 (101 + 8 * f + 3))) * (tc_len (o.1 8 (101 + 8 * f + 3)))) (tcl_ne (g6 f hf5).1 (g6 f hf5).2) rfl dX8_heardIn_35 ?_
  refine aw_rS (As := [.int (o.1 8 (101 + 8 * f + 3)), .int ((o.1 8 (20 * l + 2)) - (o.1 8 (20 * l + 2)) / (tc_len (o.1 8 (101 + 8 * f + 3))) * (tc_len (o.1 8 (101 + 8 * f + 3))))]) (S := []) (v := some (.int (tc_snd (o.1 8 (101 + 8 * f + 3)) ((o.1 8 (20 * l + 2)) - (o.1 8 (20 * l + 2)) / (tc_len (o.1 8 (101 + 8 * f + 3))) * (tc_len (o.1 8 (101 + 8 * f + 3))))))) (o2 := o) (ct_X8_heard (g6 f hf5).1 (g6 f hf5).2) (mm_fit_of cbX8_heard (by decide) (by decide)) wq1098 wq1099 rfl rfl (Nat.le_of_ble_eq_true rfl) (by decide) (by decide) rfl dX8_heardIn_36 ?_
  exact aw_iret rfl (by decide) (by decide) dX8_heardIn_39 ⟨by (first | with_reducible rfl | (simp [mf_hr, hp, oI, mR, wd_w_row, row_self, row_row]; done) | (simp_all [mf_hr, hp, oI, mR, wd_w_row, row_self, row_row]; done) | (simp only [wd_w_row, row_self, row_row, i32_add0] at *; simp [mf_hr, hp, oI, mR, wd_w_row, row_self, row_row]; done)), by (first | with_reducible rfl | (simp [mf_hr, hp, oI, mR, wd_w_row, row_self, row_row]; done) | (simp_all [mf_hr, hp, oI, mR, wd_w_row, row_self, row_row]; done) | (simp only [wd_w_row, row_self, row_row, i32_add0] at *; simp [mf_hr, hp, oI, mR, wd_w_row, row_self, row_row]; done))⟩
theorem ct_hr_7 {ad : Nat → Nat → Nat → Nat} {o : wd_S} {n m : Nat} (G : cg (o.1 8) n m) {l f q : Nat} (hl : l < 5) (hp : o.1 8 (20 * l + 1) = 7) (hf5 : f < m) (hf : o.1 8 (20 * l + 3) = nI f) (hq5 : q < m) (hq : o.1 8 (20 * l + 4) = nI q) : CT ad MX8_heardIn [.ref (ad 14 0 0), .int (nI l)] o (RT (some (.int (mf_hr (o.1 8) l f q))) o) := by
  obtain ⟨g1, g2, g3, g4, g5, g6⟩ := id G
  refine CT.of (L := [some (.ref (ad 14 0 0)), some (.int (nI l)), none, none, none]) rfl rfl (by decide) (Nat.le_of_ble_eq_true rfl) rfl ?_
  refine aw_aload_n (x := ad 14 0 0) rfl dX8_heardIn_0 ?_
  refine aw_iload_n (x := (nI l)) rfl dX8_heardIn_1 ?_
  refine aw_iconst (v := 1) (by decide) dX8_heardIn_2 ?_
  refine aw_rV (As := [.int (nI l), .int 1]) (S := []) (v := some (.int (o.1 8 (20 * l + 2)))) (o2 := o) (ct_X8_of (l := l) (w := 1) (by omega) (by decide)) (mm_fit_of cbX8_of (by decide) (by decide)) wq969 cvX8_of wv14 rfl rfl rfl (Nat.le_of_ble_eq_true rfl) (by decide) (by decide) rfl dX8_heardIn_3 ?_
  refine aw_istore_n (L2 := [some (.ref (ad 14 0 0)), some (.int (nI l)), some (.int (o.1 8 (20 * l + 2))), none, none]) (by decide) rfl rfl dX8_heardIn_6 ?_
  refine aw_aload_n (x := ad 14 0 0) rfl dX8_heardIn_7 ?_
  refine aw_iload_n (x := (nI l)) rfl dX8_heardIn_8 ?_
  refine aw_iconst (v := 0) (by decide) dX8_heardIn_9 ?_
  refine aw_rV (As := [.int (nI l), .int 0]) (S := []) (v := some (.int 7)) (o2 := o) (RTv (ct_X8_of (l := l) (w := 0) (by omega) (by decide)) hp) (mm_fit_of cbX8_of (by decide) (by decide)) wq969 cvX8_of wv14 rfl rfl rfl (Nat.le_of_ble_eq_true rfl) (by decide) (by decide) rfl dX8_heardIn_10 ?_
  refine aw_iconst (v := 3) (by decide) dX8_heardIn_13 ?_
  refine aw_icmp_ne (tgt := 40) (by decide) dX8_heardIn_14 (fun _ => ?_) (fun z => absurd z (by decide))
  refine aw_aload_n (x := ad 14 0 0) rfl dX8_heardIn_40 ?_
  refine aw_iload_n (x := (nI l)) rfl dX8_heardIn_41 ?_
  refine aw_iconst (v := 0) (by decide) dX8_heardIn_42 ?_
  refine aw_rV (As := [.int (nI l), .int 0]) (S := []) (v := some (.int 7)) (o2 := o) (RTv (ct_X8_of (l := l) (w := 0) (by omega) (by decide)) hp) (mm_fit_of cbX8_of (by decide) (by decide)) wq969 cvX8_of wv14 rfl rfl rfl (Nat.le_of_ble_eq_true rfl) (by decide) (by decide) rfl dX8_heardIn_43 ?_
  refine aw_bipush (v := 7) (by decide) dX8_heardIn_46 ?_
  refine aw_icmp_eq (tgt := 53) (by decide) dX8_heardIn_48 (fun _ => ?_) (fun z => absurd z (by decide))
  refine aw_aload_n (x := ad 14 0 0) rfl dX8_heardIn_53 ?_
  refine aw_aload_n (x := ad 14 0 0) rfl dX8_heardIn_54 ?_
  refine aw_iload_n (x := (nI l)) rfl dX8_heardIn_55 ?_
  refine aw_iconst (v := 3) (by decide) dX8_heardIn_56 ?_
  refine aw_rV (As := [.int (nI l), .int 3]) (S := [.ref (ad 14 0 0)]) (v := some (.int (nI q))) (o2 := o) (RTv (ct_X8_of (l := l) (w := 3) (by omega) (by decide)) hq) (mm_fit_of cbX8_of (by decide) (by decide)) wq969 cvX8_of wv14 rfl rfl rfl (Nat.le_of_ble_eq_true rfl) (by decide) (by decide) rfl dX8_heardIn_57 ?_
  refine aw_iconst (v := 2) (by decide) dX8_heardIn_60 ?_
  refine aw_rV (As := [.int (nI q), .int 2]) (S := []) (v := some (.int (o.1 8 (101 + 8 * q + 3)))) (o2 := o) (ct_X8_its (s := q) (w := 2) (by omega) (by decide)) (mm_fit_of cbX8_its (by decide) (by decide)) wq949 cvX8_its wv14 rfl rfl rfl (Nat.le_of_ble_eq_true rfl) (by decide) (by decide) rfl dX8_heardIn_61 ?_
  refine aw_istore_n (L2 := [some (.ref (ad 14 0 0)), some (.int (nI l)), some (.int (o.1 8 (20 * l + 2))), some (.int (o.1 8 (101 + 8 * q + 3))), none]) (by decide) rfl rfl dX8_heardIn_64 ?_
  refine aw_iload_n (x := (o.1 8 (20 * l + 2))) rfl dX8_heardIn_65 ?_
  refine aw_aload_n (x := ad 14 0 0) rfl dX8_heardIn_66 ?_
  refine aw_iload_n (x := (nI l)) rfl dX8_heardIn_67 ?_
  refine aw_rV (As := [.int (nI l)]) (S := [.int (o.1 8 (20 * l + 2))]) (v := some (.int (tc_len (o.1 8 (101 + 8 * f + 3)) + tc_len (o.1 8 (101 + 8 * q + 3))))) (o2 := o) (ct_X8_both (e := 0) G hl hf5 hf hq5 hq) (mm_fit_of cbX8_bothLengths (by decide) (by decide)) wq1074 cvX8_bothLengths wv14 rfl rfl rfl (Nat.le_of_ble_eq_true rfl) (by decide) (by decide) rfl dX8_heardIn_68 ?_
  refine aw_iremz (z := (o.1 8 (20 * l + 2)) - (o.1 8 (20 * l + 2)) / (tc_len (o.1 8 (101 + 8 * f + 3)) + tc_len (o.1 8 (101 + 8 * q + 3))) * (tc_len (o.1 8 (101 + 8 * f + 3)) + tc_len (o.1 8 (101 + 8 * q + 3)))) (tcl_ne2 (g6 f hf5).1 (g6 f hf5).2 (g6 q hq5).1 (g6 q hq5).2) rfl dX8_heardIn_71 ?_
  refine aw_istore (L2 := [some (.ref (ad 14 0 0)), some (.int (nI l)), some (.int (o.1 8 (20 * l + 2))), some (.int (o.1 8 (101 + 8 * q + 3))), some (.int ((o.1 8 (20 * l + 2)) - (o.1 8 (20 * l + 2)) / (tc_len (o.1 8 (101 + 8 * f + 3)) + tc_len (o.1 8 (101 + 8 * q + 3))) * (tc_len (o.1 8 (101 + 8 * f + 3)) + tc_len (o.1 8 (101 + 8 * q + 3)))))]) (by decide) rfl rfl dX8_heardIn_72 ?_
  refine aw_iload (x := ((o.1 8 (20 * l + 2)) - (o.1 8 (20 * l + 2)) / (tc_len (o.1 8 (101 + 8 * f + 3)) + tc_len (o.1 8 (101 + 8 * q + 3))) * (tc_len (o.1 8 (101 + 8 * f + 3)) + tc_len (o.1 8 (101 + 8 * q + 3))))) rfl dX8_heardIn_74 ?_
  refine aw_iload_n (x := (o.1 8 (101 + 8 * q + 3))) rfl dX8_heardIn_76 ?_
  refine aw_rS (As := [.int (o.1 8 (101 + 8 * q + 3))]) (S := [.int ((o.1 8 (20 * l + 2)) - (o.1 8 (20 * l + 2)) / (tc_len (o.1 8 (101 + 8 * f + 3)) + tc_len (o.1 8 (101 + 8 * q + 3))) * (tc_len (o.1 8 (101 + 8 * f + 3)) + tc_len (o.1 8 (101 + 8 * q + 3))))]) (v := some (.int (tc_len (o.1 8 (101 + 8 * q + 3))))) (o2 := o) (ct_X8_lengthOf (g6 q hq5).1 (g6 q hq5).2) (mm_fit_of cbX8_lengthOf (by decide) (by decide)) wq1065 wq1066 rfl rfl (Nat.le_of_ble_eq_true rfl) (by decide) (by decide) rfl dX8_heardIn_77 ?_
  refine aw_icmp_ge (tgt := 92) (by decide) dX8_heardIn_80 (fun b1 => ?_) (fun b1 => ?_)
  · skip
    refine aw_aload_n (x := ad 14 0 0) rfl dX8_heardIn_92 ?_
    refine aw_aload_n (x := ad 14 0 0) rfl dX8_heardIn_93 ?_
    refine aw_iload_n (x := (nI l)) rfl dX8_heardIn_94 ?_
    refine aw_iconst (v := 2) (by decide) dX8_heardIn_95 ?_
    refine aw_rV (As := [.int (nI l), .int 2]) (S := [.ref (ad 14 0 0)]) (v := some (.int (nI f))) (o2 := o) (RTv (ct_X8_of (l := l) (w := 2) (by omega) (by decide)) hf) (mm_fit_of cbX8_of (by decide) (by decide)) wq969 cvX8_of wv14 rfl rfl rfl (Nat.le_of_ble_eq_true rfl) (by decide) (by decide) rfl dX8_heardIn_96 ?_
    refine aw_iconst (v := 2) (by decide) dX8_heardIn_99 ?_
    refine aw_rV (As := [.int (nI f), .int 2]) (S := []) (v := some (.int (o.1 8 (101 + 8 * f + 3)))) (o2 := o) (ct_X8_its (s := f) (w := 2) (by omega) (by decide)) (mm_fit_of cbX8_its (by decide) (by decide)) wq949 cvX8_its wv14 rfl rfl rfl (Nat.le_of_ble_eq_true rfl) (by decide) (by decide) rfl dX8_heardIn_100 ?_
    refine aw_iload (x := ((o.1 8 (20 * l + 2)) - (o.1 8 (20 * l + 2)) / (tc_len (o.1 8 (101 + 8 * f + 3)) + tc_len (o.1 8 (101 + 8 * q + 3))) * (tc_len (o.1 8 (101 + 8 * f + 3)) + tc_len (o.1 8 (101 + 8 * q + 3))))) rfl dX8_heardIn_103 ?_
    refine aw_iload_n (x := (o.1 8 (101 + 8 * q + 3))) rfl dX8_heardIn_105 ?_
    refine aw_rS (As := [.int (o.1 8 (101 + 8 * q + 3))]) (S := [.int ((o.1 8 (20 * l + 2)) - (o.1 8 (20 * l + 2)) / (tc_len (o.1 8 (101 + 8 * f + 3)) + tc_len (o.1 8 (101 + 8 * q + 3))) * (tc_len (o.1 8 (101 + 8 * f + 3)) + tc_len (o.1 8 (101 + 8 * q + 3)))), .int (o.1 8 (101 + 8 * f + 3))]) (v := some (.int (tc_len (o.1 8 (101 + 8 * q + 3))))) (o2 := o) (ct_X8_lengthOf (g6 q hq5).1 (g6 q hq5).2) (mm_fit_of cbX8_lengthOf (by decide) (by decide)) wq1065 wq1066 rfl rfl (Nat.le_of_ble_eq_true rfl) (by decide) (by decide) rfl dX8_heardIn_106 ?_
    refine aw_isubz (z := ((o.1 8 (20 * l + 2)) - (o.1 8 (20 * l + 2)) / (tc_len (o.1 8 (101 + 8 * f + 3)) + tc_len (o.1 8 (101 + 8 * q + 3))) * (tc_len (o.1 8 (101 + 8 * f + 3)) + tc_len (o.1 8 (101 + 8 * q + 3)))) - (tc_len (o.1 8 (101 + 8 * q + 3)))) rfl dX8_heardIn_109 ?_
    refine aw_rS (As := [.int (o.1 8 (101 + 8 * f + 3)), .int (((o.1 8 (20 * l + 2)) - (o.1 8 (20 * l + 2)) / (tc_len (o.1 8 (101 + 8 * f + 3)) + tc_len (o.1 8 (101 + 8 * q + 3))) * (tc_len (o.1 8 (101 + 8 * f + 3)) + tc_len (o.1 8 (101 + 8 * q + 3)))) - (tc_len (o.1 8 (101 + 8 * q + 3))))]) (S := []) (v := some (.int (tc_snd (o.1 8 (101 + 8 * f + 3)) (((o.1 8 (20 * l + 2)) - (o.1 8 (20 * l + 2)) / (tc_len (o.1 8 (101 + 8 * f + 3)) + tc_len (o.1 8 (101 + 8 * q + 3))) * (tc_len (o.1 8 (101 + 8 * f + 3)) + tc_len (o.1 8 (101 + 8 * q + 3)))) - (tc_len (o.1 8 (101 + 8 * q + 3))))))) (o2 := o) (ct_X8_heard (g6 f hf5).1 (g6 f hf5).2) (mm_fit_of cbX8_heard (by decide) (by decide)) wq1098 wq1099 rfl rfl (Nat.le_of_ble_eq_true rfl) (by decide) (by decide) rfl dX8_heardIn_110 ?_
    exact aw_iret rfl (by decide) (by decide) dX8_heardIn_113 ⟨by (first | with_reducible rfl | (simp [mf_hr, hp, oI, mR, wd_w_row, row_self, row_row, b1]; done) | (simp_all [mf_hr, hp, oI, mR, wd_w_row, row_self, row_row, b1]; done) | (simp only [wd_w_row, row_self, row_row, i32_add0] at *; simp [mf_hr, hp, oI, mR, wd_w_row, row_self, row_row, b1]; done)), by (first | with_reducible rfl | (simp [mf_hr, hp, oI, mR, wd_w_row, row_self, row_row, b1]; done) | (simp_all [mf_hr, hp, oI, mR, wd_w_row, row_self, row_row, b1]; done) | (simp only [wd_w_row, row_self, row_row, i32_add0] at *; simp [mf_hr, hp, oI, mR, wd_w_row, row_self, row_row, b1]; done))⟩
  · skip
    refine aw_iload_n (x := (o.1 8 (101 + 8 * q + 3))) rfl dX8_heardIn_83 ?_
    refine aw_iload (x := ((o.1 8 (20 * l + 2)) - (o.1 8 (20 * l + 2)) / (tc_len (o.1 8 (101 + 8 * f + 3)) + tc_len (o.1 8 (101 + 8 * q + 3))) * (tc_len (o.1 8 (101 + 8 * f + 3)) + tc_len (o.1 8 (101 + 8 * q + 3))))) rfl dX8_heardIn_84 ?_
    refine aw_rS (As := [.int (o.1 8 (101 + 8 * q + 3)), .int ((o.1 8 (20 * l + 2)) - (o.1 8 (20 * l + 2)) / (tc_len (o.1 8 (101 + 8 * f + 3)) + tc_len (o.1 8 (101 + 8 * q + 3))) * (tc_len (o.1 8 (101 + 8 * f + 3)) + tc_len (o.1 8 (101 + 8 * q + 3))))]) (S := []) (v := some (.int (tc_snd (o.1 8 (101 + 8 * q + 3)) ((o.1 8 (20 * l + 2)) - (o.1 8 (20 * l + 2)) / (tc_len (o.1 8 (101 + 8 * f + 3)) + tc_len (o.1 8 (101 + 8 * q + 3))) * (tc_len (o.1 8 (101 + 8 * f + 3)) + tc_len (o.1 8 (101 + 8 * q + 3))))))) (o2 := o) (ct_X8_heard (g6 q hq5).1 (g6 q hq5).2) (mm_fit_of cbX8_heard (by decide) (by decide)) wq1098 wq1099 rfl rfl (Nat.le_of_ble_eq_true rfl) (by decide) (by decide) rfl dX8_heardIn_86 ?_
    refine aw_goto (tgt := 113) (by decide) dX8_heardIn_89 ?_
    exact aw_iret rfl (by decide) (by decide) dX8_heardIn_113 ⟨by (first | with_reducible rfl | (simp [mf_hr, hp, oI, mR, wd_w_row, row_self, row_row, b1]; done) | (simp_all [mf_hr, hp, oI, mR, wd_w_row, row_self, row_row, b1]; done) | (simp only [wd_w_row, row_self, row_row, i32_add0] at *; simp [mf_hr, hp, oI, mR, wd_w_row, row_self, row_row, b1]; done)), by (first | with_reducible rfl | (simp [mf_hr, hp, oI, mR, wd_w_row, row_self, row_row, b1]; done) | (simp_all [mf_hr, hp, oI, mR, wd_w_row, row_self, row_row, b1]; done) | (simp only [wd_w_row, row_self, row_row, i32_add0] at *; simp [mf_hr, hp, oI, mR, wd_w_row, row_self, row_row, b1]; done))⟩
theorem ct_hr_x {ad : Nat → Nat → Nat → Nat} {o : wd_S} {n m : Nat} (G : cg (o.1 8) n m) {l f q : Nat} (hl : l < 5) (hp : o.1 8 (20 * l + 1) ≠ 3) (hp7 : o.1 8 (20 * l + 1) ≠ 7) : CT ad MX8_heardIn [.ref (ad 14 0 0), .int (nI l)] o (RT (some (.int (mf_hr (o.1 8) l f q))) o) := by
  obtain ⟨g1, g2, g3, g4, g5, g6⟩ := id G
  refine CT.of (L := [some (.ref (ad 14 0 0)), some (.int (nI l)), none, none, none]) rfl rfl (by decide) (Nat.le_of_ble_eq_true rfl) rfl ?_
  refine aw_aload_n (x := ad 14 0 0) rfl dX8_heardIn_0 ?_
  refine aw_iload_n (x := (nI l)) rfl dX8_heardIn_1 ?_
  refine aw_iconst (v := 1) (by decide) dX8_heardIn_2 ?_
  refine aw_rV (As := [.int (nI l), .int 1]) (S := []) (v := some (.int (o.1 8 (20 * l + 2)))) (o2 := o) (ct_X8_of (l := l) (w := 1) (by omega) (by decide)) (mm_fit_of cbX8_of (by decide) (by decide)) wq969 cvX8_of wv14 rfl rfl rfl (Nat.le_of_ble_eq_true rfl) (by decide) (by decide) rfl dX8_heardIn_3 ?_
  refine aw_istore_n (L2 := [some (.ref (ad 14 0 0)), some (.int (nI l)), some (.int (o.1 8 (20 * l + 2))), none, none]) (by decide) rfl rfl dX8_heardIn_6 ?_
  refine aw_aload_n (x := ad 14 0 0) rfl dX8_heardIn_7 ?_
  refine aw_iload_n (x := (nI l)) rfl dX8_heardIn_8 ?_
  refine aw_iconst (v := 0) (by decide) dX8_heardIn_9 ?_
  refine aw_rV (As := [.int (nI l), .int 0]) (S := []) (v := some (.int (o.1 8 (20 * l + 1)))) (o2 := o) (ct_X8_of (l := l) (w := 0) (by omega) (by decide)) (mm_fit_of cbX8_of (by decide) (by decide)) wq969 cvX8_of wv14 rfl rfl rfl (Nat.le_of_ble_eq_true rfl) (by decide) (by decide) rfl dX8_heardIn_10 ?_
  refine aw_iconst (v := 3) (by decide) dX8_heardIn_13 ?_
  refine aw_icmp_ne (tgt := 40) (by decide) dX8_heardIn_14 (fun _ => ?_) (fun z => absurd z hp)
  refine aw_aload_n (x := ad 14 0 0) rfl dX8_heardIn_40 ?_
  refine aw_iload_n (x := (nI l)) rfl dX8_heardIn_41 ?_
  refine aw_iconst (v := 0) (by decide) dX8_heardIn_42 ?_
  refine aw_rV (As := [.int (nI l), .int 0]) (S := []) (v := some (.int (o.1 8 (20 * l + 1)))) (o2 := o) (ct_X8_of (l := l) (w := 0) (by omega) (by decide)) (mm_fit_of cbX8_of (by decide) (by decide)) wq969 cvX8_of wv14 rfl rfl rfl (Nat.le_of_ble_eq_true rfl) (by decide) (by decide) rfl dX8_heardIn_43 ?_
  refine aw_bipush (v := 7) (by decide) dX8_heardIn_46 ?_
  refine aw_icmp_eq (tgt := 53) (by decide) dX8_heardIn_48 (fun z => absurd z hp7) (fun _ => ?_)
  refine aw_iconst (v := 0) (by decide) dX8_heardIn_51 ?_
  exact aw_iret rfl (by decide) (by decide) dX8_heardIn_52 ⟨by (first | with_reducible rfl | (simp [mf_hr, hp, hp7, oI, mR, wd_w_row, row_self, row_row]; done) | (simp_all [mf_hr, hp, hp7, oI, mR, wd_w_row, row_self, row_row]; done) | (simp only [wd_w_row, row_self, row_row, i32_add0] at *; simp [mf_hr, hp, hp7, oI, mR, wd_w_row, row_self, row_row]; done)), by (first | with_reducible rfl | (simp [mf_hr, hp, hp7, oI, mR, wd_w_row, row_self, row_row]; done) | (simp_all [mf_hr, hp, hp7, oI, mR, wd_w_row, row_self, row_row]; done) | (simp only [wd_w_row, row_self, row_row, i32_add0] at *; simp [mf_hr, hp, hp7, oI, mR, wd_w_row, row_self, row_row]; done))⟩
def mf_hear (N : Nat → Int32) (l : Nat) : Int32 := mf_hr N l (nt (N (20 * l + 3))) (nt (N (20 * l + 4)))
theorem ct_X8_hear {ad : Nat → Nat → Nat → Nat} {o : wd_S} {n m l : Nat} (I : mi (o.1 8) n m) (hl : l < n) : CT ad MX8_heardIn [.ref (ad 14 0 0), .int (nI l)] o (RT (some (.int (mf_hear (o.1 8) l))) o) := by
  obtain ⟨G, J⟩ := I
  have g2 := G.2.1
  have g4 := G.2.2.2.1
  obtain ⟨h1, h2, h3, h4, h5, h6, h7, h8⟩ := J l hl
  have hl5 : l < 5 := by omega
  by_cases p3 : o.1 8 (20 * l + 1) = 3
  · obtain ⟨b1, b2⟩ := nt_of (by omega) h3 (h5 p3).2
    exact ct_hr_3 G hl5 p3 b1 b2
  · by_cases p7 : o.1 8 (20 * l + 1) = 7
    · obtain ⟨a1, a2⟩ := nt_of (by omega) h3 (h6 p7).1
      obtain ⟨b1, b2⟩ := nt_of (by omega) h4 (h6 p7).2
      exact ct_hr_7 G hl5 p7 a1 a2 b1 b2
    · exact ct_hr_x G hl5 p3 p7
def rf_rings (o : wd_S) (n : Nat) (x : Int32) : Out := match lk n x with
  | none => mR 1 o
  | some l => oI (mf_hear (o.1 8) l) (wd_w o 12 1 0)
def rf_clen (o : wd_S) (x : Int32) : Out := if cs_isCode x = 0 then mR 1 o else oI (tc_len x) (wd_w o 12 1 0)
def rf_cost (o : wd_S) (n m : Nat) (x : Int32) : Out := match lk n x with
  | none => mR 1 o
  | some l => oI (sumF (mf_cost (o.1 8) l) m 0) (wd_w o 12 1 0)
def mf_least (N : Nat → Int32) (m l i : Nat) : Int32 := if N (101 + 8 * i + 1) = nI l then N (101 + 8 * i + 5) * tc_len (mm_bl (cntN (mf_ah N l i) m 0)) else 0
def rf_best (o : wd_S) (n m : Nat) (x : Int32) : Out := match lk n x with
  | none => mR 1 o
  | some l => oI (sumF (mf_least (o.1 8) m l) m 0) (wd_w o 12 1 0)
def rf_isCut (o : wd_S) (m : Nat) (x : Int32) : Out := match lk m x with
  | none => mR 1 o
  | some s => oI (if mf_cut (o.1 8) (hm (o.1 8) s) s = 0 then 0 else 1) (wd_w o 12 1 0)
def rf_risk (o : wd_S) (n c : Nat) (x r : Int32) (j : Nat) : Out := match lk n x with
  | none => mR 1 o
  | some l => if r < 1 then mR 2 o else if r > 9 then mR 2 o else oI (o.1 8 (20 * l + 8 + j)) (wd_row (mS o c) 8 (upd (o.1 8) (20 * l + 8 + j) r))
def rf_test (o : wd_S) (n : Nat) (x k : Int32) : Out := match lk n x with
  | none => mR 1 o
  | some l => if k < 1 then mR 2 o else if k > 11 then mR 2 o else if o.1 8 (20 * l + 7) = -1 then mR 3 o else oI (if o.1 8 (20 * l + 7) > k then 0 else 1) (wd_w o 12 1 0)
theorem rt_rings {ad : Nat → Nat → Nat → Nat} {o : wd_S} {n m c : Nat} (V : mv o n m c) (J : mi (o.1 8) n m) {x : Int32} : CT ad MX8_rings [.ref (ad 14 0 0), .int x] o (OT (rf_rings o n x)) := by
  obtain ⟨G, hk, hc⟩ := id V
  obtain ⟨g1, g2, g3, g4, g5, g6⟩ := id G
  refine CT.of (L := [some (.ref (ad 14 0 0)), some (.int x)]) rfl rfl (by decide) (Nat.le_of_ble_eq_true rfl) rfl ?_
  refine aw_aload_n (x := ad 14 0 0) rfl dX8_rings_0 ?_
  refine aw_aload_n (x := ad 14 0 0) rfl dX8_rings_1 ?_
  refine aw_aload_n (x := ad 14 0 0) rfl dX8_rings_2 ?_
  refine aw_iload_n (x := x) rfl dX8_rings_3 ?_
  rcases k1 : lk n x with _ | l
  · skip
    refine aw_rV (As := [.int x]) (S := [.ref (ad 14 0 0), .ref (ad 14 0 0)]) (v := some (.int 0)) (o2 := o) (ct_X8_isLoop_none G k1) (mm_fit_of cbX8_isLoop (by decide) (by decide)) wq941 cvX8_isLoop wv14 rfl rfl rfl (Nat.le_of_ble_eq_true rfl) (by decide) (by decide) rfl dX8_rings_4 ?_
    refine aw_rV (As := [.int 0]) (S := [.ref (ad 14 0 0)]) (v := some (.int 1)) (o2 := o) (ct_need_0) (mm_fit_of cbX8_need (by decide) (by decide)) wq1053 cvX8_need wv14 rfl rfl rfl (Nat.le_of_ble_eq_true rfl) (by decide) (by decide) rfl dX8_rings_7 ?_
    refine aw_rV (As := [.int 1]) (S := []) (v := some (.int 1)) (o2 := (wd_w o 12 1 1)) (ct_refused_p (by decide)) (mm_fit_of cbX8_refused (by decide) (by decide)) wq922 cvX8_refused wv14 rfl rfl rfl (Nat.le_of_ble_eq_true rfl) (by decide) (by decide) rfl dX8_rings_10 ?_
    obtain ⟨o1, ho1⟩ : ∃ z, z = (wd_w o 12 1 1) := ⟨_, rfl⟩
    rw [← ho1]
    have Go1 : cg (o1.1 8) n m := by rw [ho1]; rw [wd_w_row, row_ne _ _ (by decide)]; exact G
    refine aw_if_eq (tgt := 20) (by decide) dX8_rings_13 (fun z => absurd z (by decide)) (fun _ => ?_)
    refine aw_iconst (v := 0) (by decide) dX8_rings_16 ?_
    refine aw_goto (tgt := 25) (by decide) dX8_rings_17 ?_
    exact aw_iret rfl (by decide) (by decide) dX8_rings_25 ⟨by (subst ho1; first | with_reducible rfl | (simp [rf_rings, row_ne _ _ (show (8 : Nat) ≠ 12 by decide), mS, mS_8, oI, mR, oI, mR, wd_w_row, row_self, row_row, k1]; done) | (simp_all [rf_rings, row_ne _ _ (show (8 : Nat) ≠ 12 by decide), mS, mS_8, oI, mR, oI, mR, wd_w_row, row_self, row_row, k1]; done) | (simp only [wd_w_row, row_self, row_row, i32_add0, row_ne _ _ (show (8 : Nat) ≠ 12 by decide)] at *; simp [rf_rings, row_ne _ _ (show (8 : Nat) ≠ 12 by decide), mS, mS_8, oI, mR, oI, mR, wd_w_row, row_self, row_row, k1]; done)), by (subst ho1; first | with_reducible rfl | (simp [rf_rings, row_ne _ _ (show (8 : Nat) ≠ 12 by decide), mS, mS_8, oI, mR, oI, mR, wd_w_row, row_self, row_row, k1]; done) | (simp_all [rf_rings, row_ne _ _ (show (8 : Nat) ≠ 12 by decide), mS, mS_8, oI, mR, oI, mR, wd_w_row, row_self, row_row, k1]; done) | (simp only [wd_w_row, row_self, row_row, i32_add0, row_ne _ _ (show (8 : Nat) ≠ 12 by decide)] at *; simp [rf_rings, row_ne _ _ (show (8 : Nat) ≠ 12 by decide), mS, mS_8, oI, mR, oI, mR, wd_w_row, row_self, row_row, k1]; done))⟩
  · skip
    obtain ⟨rfl, k1l⟩ := lk_some k1
    have k1b : l < 5 := by omega
    refine aw_rV (As := [.int (nI l)]) (S := [.ref (ad 14 0 0), .ref (ad 14 0 0)]) (v := some (.int 1)) (o2 := o) (ct_X8_isLoop_some G k1) (mm_fit_of cbX8_isLoop (by decide) (by decide)) wq941 cvX8_isLoop wv14 rfl rfl rfl (Nat.le_of_ble_eq_true rfl) (by decide) (by decide) rfl dX8_rings_4 ?_
    refine aw_rV (As := [.int 1]) (S := [.ref (ad 14 0 0)]) (v := some (.int 0)) (o2 := o) (ct_need_1) (mm_fit_of cbX8_need (by decide) (by decide)) wq1053 cvX8_need wv14 rfl rfl rfl (Nat.le_of_ble_eq_true rfl) (by decide) (by decide) rfl dX8_rings_7 ?_
    refine aw_rV (As := [.int 0]) (S := []) (v := some (.int 0)) (o2 := (wd_w o 12 1 0)) (ct_refused_0) (mm_fit_of cbX8_refused (by decide) (by decide)) wq922 cvX8_refused wv14 rfl rfl rfl (Nat.le_of_ble_eq_true rfl) (by decide) (by decide) rfl dX8_rings_10 ?_
    obtain ⟨o2, ho2⟩ : ∃ z, z = (wd_w o 12 1 0) := ⟨_, rfl⟩
    rw [← ho2]
    have Go2 : cg (o2.1 8) n m := by rw [ho2]; rw [wd_w_row, row_ne _ _ (by decide)]; exact G
    refine aw_if_eq (tgt := 20) (by decide) dX8_rings_13 (fun _ => ?_) (fun z => absurd z (by decide))
    refine aw_aload_n (x := ad 14 0 0) rfl dX8_rings_20 ?_
    refine aw_iload_n (x := (nI l)) rfl dX8_rings_21 ?_
    refine aw_rV (As := [.int (nI l)]) (S := []) (v := some (.int (mf_hear (o2.1 8) l))) (o2 := o2) (ct_X8_hear (by rw [ho2, wd_w_row, row_ne _ _ (by decide)]; exact J) (by omega)) (mm_fit_of cbX8_heardIn (by decide) (by decide)) wq1094 cvX8_heardIn wv14 rfl rfl rfl (Nat.le_of_ble_eq_true rfl) (by decide) (by decide) rfl dX8_rings_22 ?_
    exact aw_iret rfl (by decide) (by decide) dX8_rings_25 ⟨by (subst ho2; first | with_reducible rfl | (simp [rf_rings, row_ne _ _ (show (8 : Nat) ≠ 12 by decide), mS, mS_8, oI, mR, oI, mR, wd_w_row, row_self, row_row, k1]; done) | (simp_all [rf_rings, row_ne _ _ (show (8 : Nat) ≠ 12 by decide), mS, mS_8, oI, mR, oI, mR, wd_w_row, row_self, row_row, k1]; done) | (simp only [wd_w_row, row_self, row_row, i32_add0, row_ne _ _ (show (8 : Nat) ≠ 12 by decide)] at *; simp [rf_rings, row_ne _ _ (show (8 : Nat) ≠ 12 by decide), mS, mS_8, oI, mR, oI, mR, wd_w_row, row_self, row_row, k1]; done)), by (subst ho2; first | with_reducible rfl | (simp [rf_rings, row_ne _ _ (show (8 : Nat) ≠ 12 by decide), mS, mS_8, oI, mR, oI, mR, wd_w_row, row_self, row_row, k1]; done) | (simp_all [rf_rings, row_ne _ _ (show (8 : Nat) ≠ 12 by decide), mS, mS_8, oI, mR, oI, mR, wd_w_row, row_self, row_row, k1]; done) | (simp only [wd_w_row, row_self, row_row, i32_add0, row_ne _ _ (show (8 : Nat) ≠ 12 by decide)] at *; simp [rf_rings, row_ne _ _ (show (8 : Nat) ≠ 12 by decide), mS, mS_8, oI, mR, oI, mR, wd_w_row, row_self, row_row, k1]; done))⟩
theorem rt_clen {ad : Nat → Nat → Nat → Nat} {o : wd_S} {n m c : Nat} (V : mv o n m c) {x : Int32} : CT ad MX8_codeLength [.ref (ad 14 0 0), .int x] o (OT (rf_clen o x)) := by
  obtain ⟨G, hk, hc⟩ := id V
  obtain ⟨g1, g2, g3, g4, g5, g6⟩ := id G
  refine CT.of (L := [some (.ref (ad 14 0 0)), some (.int x)]) rfl rfl (by decide) (Nat.le_of_ble_eq_true rfl) rfl ?_
  refine aw_aload_n (x := ad 14 0 0) rfl dX8_codeLength_0 ?_
  refine aw_aload_n (x := ad 14 0 0) rfl dX8_codeLength_1 ?_
  refine aw_iload_n (x := x) rfl dX8_codeLength_2 ?_
  by_cases hcd : cs_isCode x = 0
  · skip
    refine aw_rS (As := [.int x]) (S := [.ref (ad 14 0 0), .ref (ad 14 0 0)]) (v := some (.int 0)) (o2 := o) (RTv ct_X8_isCode (show mf_code x = 0 from hcd)) (mm_fit_of cbX8_isCode (by decide) (by decide)) wq1105 wq1106 rfl rfl (Nat.le_of_ble_eq_true rfl) (by decide) (by decide) rfl dX8_codeLength_3 ?_
    refine aw_rV (As := [.int 0]) (S := [.ref (ad 14 0 0)]) (v := some (.int 1)) (o2 := o) (ct_need_0) (mm_fit_of cbX8_need (by decide) (by decide)) wq1053 cvX8_need wv14 rfl rfl rfl (Nat.le_of_ble_eq_true rfl) (by decide) (by decide) rfl dX8_codeLength_6 ?_
    refine aw_rV (As := [.int 1]) (S := []) (v := some (.int 1)) (o2 := (wd_w o 12 1 1)) (ct_refused_p (by decide)) (mm_fit_of cbX8_refused (by decide) (by decide)) wq922 cvX8_refused wv14 rfl rfl rfl (Nat.le_of_ble_eq_true rfl) (by decide) (by decide) rfl dX8_codeLength_9 ?_
    obtain ⟨o1, ho1⟩ : ∃ z, z = (wd_w o 12 1 1) := ⟨_, rfl⟩
    rw [← ho1]
    have Go1 : cg (o1.1 8) n m := by rw [ho1]; rw [wd_w_row, row_ne _ _ (by decide)]; exact G
    refine aw_if_eq (tgt := 19) (by decide) dX8_codeLength_12 (fun z => absurd z (by decide)) (fun _ => ?_)
    refine aw_iconst (v := 0) (by decide) dX8_codeLength_15 ?_
    refine aw_goto (tgt := 23) (by decide) dX8_codeLength_16 ?_
    exact aw_iret rfl (by decide) (by decide) dX8_codeLength_23 ⟨by (subst ho1; first | with_reducible rfl | (simp [rf_clen, mS, mS_8, oI, mR, oI, mR, wd_w_row, row_self, row_row, hcd]; done) | (simp_all [rf_clen, mS, mS_8, oI, mR, oI, mR, wd_w_row, row_self, row_row, hcd]; done) | (simp only [wd_w_row, row_self, row_row, i32_add0, row_ne _ _ (show (8 : Nat) ≠ 12 by decide)] at *; simp [rf_clen, mS, mS_8, oI, mR, oI, mR, wd_w_row, row_self, row_row, hcd]; done)), by (subst ho1; first | with_reducible rfl | (simp [rf_clen, mS, mS_8, oI, mR, oI, mR, wd_w_row, row_self, row_row, hcd]; done) | (simp_all [rf_clen, mS, mS_8, oI, mR, oI, mR, wd_w_row, row_self, row_row, hcd]; done) | (simp only [wd_w_row, row_self, row_row, i32_add0, row_ne _ _ (show (8 : Nat) ≠ 12 by decide)] at *; simp [rf_clen, mS, mS_8, oI, mR, oI, mR, wd_w_row, row_self, row_row, hcd]; done))⟩
  · skip
    refine aw_rS (As := [.int x]) (S := [.ref (ad 14 0 0), .ref (ad 14 0 0)]) (v := some (.int 1)) (o2 := o) (RTv ct_X8_isCode (show mf_code x = 1 from (isCode_01 x).resolve_left hcd)) (mm_fit_of cbX8_isCode (by decide) (by decide)) wq1105 wq1106 rfl rfl (Nat.le_of_ble_eq_true rfl) (by decide) (by decide) rfl dX8_codeLength_3 ?_
    refine aw_rV (As := [.int 1]) (S := [.ref (ad 14 0 0)]) (v := some (.int 0)) (o2 := o) (ct_need_1) (mm_fit_of cbX8_need (by decide) (by decide)) wq1053 cvX8_need wv14 rfl rfl rfl (Nat.le_of_ble_eq_true rfl) (by decide) (by decide) rfl dX8_codeLength_6 ?_
    refine aw_rV (As := [.int 0]) (S := []) (v := some (.int 0)) (o2 := (wd_w o 12 1 0)) (ct_refused_0) (mm_fit_of cbX8_refused (by decide) (by decide)) wq922 cvX8_refused wv14 rfl rfl rfl (Nat.le_of_ble_eq_true rfl) (by decide) (by decide) rfl dX8_codeLength_9 ?_
    obtain ⟨o2, ho2⟩ : ∃ z, z = (wd_w o 12 1 0) := ⟨_, rfl⟩
    rw [← ho2]
    have Go2 : cg (o2.1 8) n m := by rw [ho2]; rw [wd_w_row, row_ne _ _ (by decide)]; exact G
    refine aw_if_eq (tgt := 19) (by decide) dX8_codeLength_12 (fun _ => ?_) (fun z => absurd z (by decide))
    refine aw_iload_n (x := x) rfl dX8_codeLength_19 ?_
    refine aw_rS (As := [.int x]) (S := []) (v := some (.int (tc_len x))) (o2 := o2) (ct_X8_lengthOf (isCode_rg hcd).1 (isCode_rg hcd).2) (mm_fit_of cbX8_lengthOf (by decide) (by decide)) wq1065 wq1066 rfl rfl (Nat.le_of_ble_eq_true rfl) (by decide) (by decide) rfl dX8_codeLength_20 ?_
    exact aw_iret rfl (by decide) (by decide) dX8_codeLength_23 ⟨by (subst ho2; first | with_reducible rfl | (simp [rf_clen, mS, mS_8, oI, mR, oI, mR, wd_w_row, row_self, row_row, hcd]; done) | (simp_all [rf_clen, mS, mS_8, oI, mR, oI, mR, wd_w_row, row_self, row_row, hcd]; done) | (simp only [wd_w_row, row_self, row_row, i32_add0, row_ne _ _ (show (8 : Nat) ≠ 12 by decide)] at *; simp [rf_clen, mS, mS_8, oI, mR, oI, mR, wd_w_row, row_self, row_row, hcd]; done)), by (subst ho2; first | with_reducible rfl | (simp [rf_clen, mS, mS_8, oI, mR, oI, mR, wd_w_row, row_self, row_row, hcd]; done) | (simp_all [rf_clen, mS, mS_8, oI, mR, oI, mR, wd_w_row, row_self, row_row, hcd]; done) | (simp only [wd_w_row, row_self, row_row, i32_add0, row_ne _ _ (show (8 : Nat) ≠ 12 by decide)] at *; simp [rf_clen, mS, mS_8, oI, mR, oI, mR, wd_w_row, row_self, row_row, hcd]; done))⟩
theorem rt_cring_1 {ad : Nat → Nat → Nat → Nat} {o : wd_S} {n m c : Nat} (V : mv o n m c) {k : Int32} : CT ad MX8_codeRing [.ref (ad 14 0 0), .int 1, .int k] o (OT (oI (tc_cr 1 k) (wd_w o 12 1 0))) := by
  obtain ⟨G, hk, hc⟩ := id V
  obtain ⟨g1, g2, g3, g4, g5, g6⟩ := id G
  refine CT.of (L := [some (.ref (ad 14 0 0)), some (.int 1), some (.int k)]) rfl rfl (by decide) (Nat.le_of_ble_eq_true rfl) rfl ?_
  refine aw_aload_n (x := ad 14 0 0) rfl dX8_codeRing_0 ?_
  refine aw_aload_n (x := ad 14 0 0) rfl dX8_codeRing_1 ?_
  refine aw_iload_n (x := 1) rfl dX8_codeRing_2 ?_
  refine aw_rS (As := [.int 1]) (S := [.ref (ad 14 0 0), .ref (ad 14 0 0)]) (v := some (.int 1)) (o2 := o) (RTv ct_X8_isCode (show mf_code 1 = 1 by decide)) (mm_fit_of cbX8_isCode (by decide) (by decide)) wq1105 wq1106 rfl rfl (Nat.le_of_ble_eq_true rfl) (by decide) (by decide) rfl dX8_codeRing_3 ?_
  refine aw_rV (As := [.int 1]) (S := [.ref (ad 14 0 0)]) (v := some (.int 0)) (o2 := o) (ct_need_1) (mm_fit_of cbX8_need (by decide) (by decide)) wq1053 cvX8_need wv14 rfl rfl rfl (Nat.le_of_ble_eq_true rfl) (by decide) (by decide) rfl dX8_codeRing_6 ?_
  refine aw_rV (As := [.int 0]) (S := []) (v := some (.int 0)) (o2 := (wd_w o 12 1 0)) (ct_refused_0) (mm_fit_of cbX8_refused (by decide) (by decide)) wq922 cvX8_refused wv14 rfl rfl rfl (Nat.le_of_ble_eq_true rfl) (by decide) (by decide) rfl dX8_codeRing_9 ?_
  obtain ⟨o1, ho1⟩ : ∃ z, z = (wd_w o 12 1 0) := ⟨_, rfl⟩
  rw [← ho1]
  have Go1 : cg (o1.1 8) n m := by rw [ho1]; rw [wd_w_row, row_ne _ _ (by decide)]; exact G
  refine aw_if_eq (tgt := 17) (by decide) dX8_codeRing_12 (fun _ => ?_) (fun z => absurd z (by decide))
  refine aw_iload_n (x := k) rfl dX8_codeRing_17 ?_
  refine aw_iconst (v := 0) (by decide) dX8_codeRing_18 ?_
  refine aw_iload_n (x := 1) rfl dX8_codeRing_19 ?_
  refine aw_rS (As := [.int 1]) (S := [.int 0, .int k]) (v := some (.int 1)) (o2 := o1) ct_X8_ringsOf_1 (mm_fit_of cbX8_ringsOf (by decide) (by decide)) wq1068 wq1069 rfl rfl (Nat.le_of_ble_eq_true rfl) (by decide) (by decide) rfl dX8_codeRing_20 ?_
  refine aw_iconst (v := 1) (by decide) dX8_codeRing_23 ?_
  refine aw_isubz (z := 0) (by decide) dX8_codeRing_24 ?_
  by_cases w1 : k < 0
  · skip
    refine aw_rS (As := [.int k, .int 0, .int 0]) (S := []) (v := some (.int 0)) (o2 := o1) (ct_within_lo w1) (mm_fit_of cbX8_within (by decide) (by decide)) wq938 wq939 rfl rfl (Nat.le_of_ble_eq_true rfl) (by decide) (by decide) rfl dX8_codeRing_25 ?_
    refine aw_if_eq (tgt := 39) (by decide) dX8_codeRing_28 (fun _ => ?_) (fun z => absurd z (by decide))
    refine aw_iconst (v := (-1)) (by decide) dX8_codeRing_39 ?_
    exact aw_iret rfl (by decide) (by decide) dX8_codeRing_40 ⟨by (subst ho1; first | rfl | decide | (rw [tc_cr, if_pos w1]; done) | (show Sum.inl (some (Value.int (-1))) = (oI (tc_cr 1 k) _).1; rw [tc_cr, if_pos w1]; rfl)), by (subst ho1; rfl)⟩
  · skip
    by_cases zw1 : k > 0
    · skip
      refine aw_rS (As := [.int k, .int 0, .int 0]) (S := []) (v := some (.int 0)) (o2 := o1) (ct_within_hi zw1) (mm_fit_of cbX8_within (by decide) (by decide)) wq938 wq939 rfl rfl (Nat.le_of_ble_eq_true rfl) (by decide) (by decide) rfl dX8_codeRing_25 ?_
      refine aw_if_eq (tgt := 39) (by decide) dX8_codeRing_28 (fun _ => ?_) (fun z => absurd z (by decide))
      refine aw_iconst (v := (-1)) (by decide) dX8_codeRing_39 ?_
      exact aw_iret rfl (by decide) (by decide) dX8_codeRing_40 ⟨by (subst ho1; first | rfl | decide | (show Sum.inl (some (Value.int (-1))) = (oI (tc_cr 1 k) _).1; rw [tc_cr, if_neg w1, show tc_n 1 = nI (0 + 1) by decide, if_neg (gt_nlt (by decide) zw1)]; rfl)), by (subst ho1; rfl)⟩
    · skip
      refine aw_rS (As := [.int k, .int 0, .int 0]) (S := []) (v := some (.int 1)) (o2 := o1) (ct_within_in w1 zw1) (mm_fit_of cbX8_within (by decide) (by decide)) wq938 wq939 rfl rfl (Nat.le_of_ble_eq_true rfl) (by decide) (by decide) rfl dX8_codeRing_25 ?_
      refine aw_if_eq (tgt := 39) (by decide) dX8_codeRing_28 (fun z => absurd z (by decide)) (fun _ => ?_)
      refine aw_iload_n (x := 1) rfl dX8_codeRing_31 ?_
      refine aw_iload_n (x := k) rfl dX8_codeRing_32 ?_
      have hk0 := i32_t1 w1 (le_lt (k := 0) (by decide) zw1)
      subst hk0
      · skip
        refine aw_rS (As := [.int 1, .int 0]) (S := []) (v := some (.int 0)) (o2 := o1) ct_X8_ringOf_1_0 (mm_fit_of cbX8_ringOf (by decide) (by decide)) wq1071 wq1072 rfl rfl (Nat.le_of_ble_eq_true rfl) (by decide) (by decide) rfl dX8_codeRing_33 ?_
        refine aw_goto (tgt := 40) (by decide) dX8_codeRing_36 ?_
        exact aw_iret rfl (by decide) (by decide) dX8_codeRing_40 ⟨by (subst ho1; first | rfl | decide), by (subst ho1; rfl)⟩
theorem rt_cring_2 {ad : Nat → Nat → Nat → Nat} {o : wd_S} {n m c : Nat} (V : mv o n m c) {k : Int32} : CT ad MX8_codeRing [.ref (ad 14 0 0), .int 2, .int k] o (OT (oI (tc_cr 2 k) (wd_w o 12 1 0))) := by
  obtain ⟨G, hk, hc⟩ := id V
  obtain ⟨g1, g2, g3, g4, g5, g6⟩ := id G
  refine CT.of (L := [some (.ref (ad 14 0 0)), some (.int 2), some (.int k)]) rfl rfl (by decide) (Nat.le_of_ble_eq_true rfl) rfl ?_
  refine aw_aload_n (x := ad 14 0 0) rfl dX8_codeRing_0 ?_
  refine aw_aload_n (x := ad 14 0 0) rfl dX8_codeRing_1 ?_
  refine aw_iload_n (x := 2) rfl dX8_codeRing_2 ?_
  refine aw_rS (As := [.int 2]) (S := [.ref (ad 14 0 0), .ref (ad 14 0 0)]) (v := some (.int 1)) (o2 := o) (RTv ct_X8_isCode (show mf_code 2 = 1 by decide)) (mm_fit_of cbX8_isCode (by decide) (by decide)) wq1105 wq1106 rfl rfl (Nat.le_of_ble_eq_true rfl) (by decide) (by decide) rfl dX8_codeRing_3 ?_
  refine aw_rV (As := [.int 1]) (S := [.ref (ad 14 0 0)]) (v := some (.int 0)) (o2 := o) (ct_need_1) (mm_fit_of cbX8_need (by decide) (by decide)) wq1053 cvX8_need wv14 rfl rfl rfl (Nat.le_of_ble_eq_true rfl) (by decide) (by decide) rfl dX8_codeRing_6 ?_
  refine aw_rV (As := [.int 0]) (S := []) (v := some (.int 0)) (o2 := (wd_w o 12 1 0)) (ct_refused_0) (mm_fit_of cbX8_refused (by decide) (by decide)) wq922 cvX8_refused wv14 rfl rfl rfl (Nat.le_of_ble_eq_true rfl) (by decide) (by decide) rfl dX8_codeRing_9 ?_
  obtain ⟨o1, ho1⟩ : ∃ z, z = (wd_w o 12 1 0) := ⟨_, rfl⟩
  rw [← ho1]
  have Go1 : cg (o1.1 8) n m := by rw [ho1]; rw [wd_w_row, row_ne _ _ (by decide)]; exact G
  refine aw_if_eq (tgt := 17) (by decide) dX8_codeRing_12 (fun _ => ?_) (fun z => absurd z (by decide))
  refine aw_iload_n (x := k) rfl dX8_codeRing_17 ?_
  refine aw_iconst (v := 0) (by decide) dX8_codeRing_18 ?_
  refine aw_iload_n (x := 2) rfl dX8_codeRing_19 ?_
  refine aw_rS (As := [.int 2]) (S := [.int 0, .int k]) (v := some (.int 1)) (o2 := o1) ct_X8_ringsOf_2 (mm_fit_of cbX8_ringsOf (by decide) (by decide)) wq1068 wq1069 rfl rfl (Nat.le_of_ble_eq_true rfl) (by decide) (by decide) rfl dX8_codeRing_20 ?_
  refine aw_iconst (v := 1) (by decide) dX8_codeRing_23 ?_
  refine aw_isubz (z := 0) (by decide) dX8_codeRing_24 ?_
  by_cases w1 : k < 0
  · skip
    refine aw_rS (As := [.int k, .int 0, .int 0]) (S := []) (v := some (.int 0)) (o2 := o1) (ct_within_lo w1) (mm_fit_of cbX8_within (by decide) (by decide)) wq938 wq939 rfl rfl (Nat.le_of_ble_eq_true rfl) (by decide) (by decide) rfl dX8_codeRing_25 ?_
    refine aw_if_eq (tgt := 39) (by decide) dX8_codeRing_28 (fun _ => ?_) (fun z => absurd z (by decide))
    refine aw_iconst (v := (-1)) (by decide) dX8_codeRing_39 ?_
    exact aw_iret rfl (by decide) (by decide) dX8_codeRing_40 ⟨by (subst ho1; first | rfl | decide | (rw [tc_cr, if_pos w1]; done) | (show Sum.inl (some (Value.int (-1))) = (oI (tc_cr 2 k) _).1; rw [tc_cr, if_pos w1]; rfl)), by (subst ho1; rfl)⟩
  · skip
    by_cases zw1 : k > 0
    · skip
      refine aw_rS (As := [.int k, .int 0, .int 0]) (S := []) (v := some (.int 0)) (o2 := o1) (ct_within_hi zw1) (mm_fit_of cbX8_within (by decide) (by decide)) wq938 wq939 rfl rfl (Nat.le_of_ble_eq_true rfl) (by decide) (by decide) rfl dX8_codeRing_25 ?_
      refine aw_if_eq (tgt := 39) (by decide) dX8_codeRing_28 (fun _ => ?_) (fun z => absurd z (by decide))
      refine aw_iconst (v := (-1)) (by decide) dX8_codeRing_39 ?_
      exact aw_iret rfl (by decide) (by decide) dX8_codeRing_40 ⟨by (subst ho1; first | rfl | decide | (show Sum.inl (some (Value.int (-1))) = (oI (tc_cr 2 k) _).1; rw [tc_cr, if_neg w1, show tc_n 2 = nI (0 + 1) by decide, if_neg (gt_nlt (by decide) zw1)]; rfl)), by (subst ho1; rfl)⟩
    · skip
      refine aw_rS (As := [.int k, .int 0, .int 0]) (S := []) (v := some (.int 1)) (o2 := o1) (ct_within_in w1 zw1) (mm_fit_of cbX8_within (by decide) (by decide)) wq938 wq939 rfl rfl (Nat.le_of_ble_eq_true rfl) (by decide) (by decide) rfl dX8_codeRing_25 ?_
      refine aw_if_eq (tgt := 39) (by decide) dX8_codeRing_28 (fun z => absurd z (by decide)) (fun _ => ?_)
      refine aw_iload_n (x := 2) rfl dX8_codeRing_31 ?_
      refine aw_iload_n (x := k) rfl dX8_codeRing_32 ?_
      have hk0 := i32_t1 w1 (le_lt (k := 0) (by decide) zw1)
      subst hk0
      · skip
        refine aw_rS (As := [.int 2, .int 0]) (S := []) (v := some (.int 1)) (o2 := o1) ct_X8_ringOf_2_0 (mm_fit_of cbX8_ringOf (by decide) (by decide)) wq1071 wq1072 rfl rfl (Nat.le_of_ble_eq_true rfl) (by decide) (by decide) rfl dX8_codeRing_33 ?_
        refine aw_goto (tgt := 40) (by decide) dX8_codeRing_36 ?_
        exact aw_iret rfl (by decide) (by decide) dX8_codeRing_40 ⟨by (subst ho1; first | rfl | decide), by (subst ho1; rfl)⟩
theorem rt_cring_3 {ad : Nat → Nat → Nat → Nat} {o : wd_S} {n m c : Nat} (V : mv o n m c) {k : Int32} : CT ad MX8_codeRing [.ref (ad 14 0 0), .int 3, .int k] o (OT (oI (tc_cr 3 k) (wd_w o 12 1 0))) := by
  obtain ⟨G, hk, hc⟩ := id V
  obtain ⟨g1, g2, g3, g4, g5, g6⟩ := id G
  refine CT.of (L := [some (.ref (ad 14 0 0)), some (.int 3), some (.int k)]) rfl rfl (by decide) (Nat.le_of_ble_eq_true rfl) rfl ?_
  refine aw_aload_n (x := ad 14 0 0) rfl dX8_codeRing_0 ?_
  refine aw_aload_n (x := ad 14 0 0) rfl dX8_codeRing_1 ?_
  refine aw_iload_n (x := 3) rfl dX8_codeRing_2 ?_
  refine aw_rS (As := [.int 3]) (S := [.ref (ad 14 0 0), .ref (ad 14 0 0)]) (v := some (.int 1)) (o2 := o) (RTv ct_X8_isCode (show mf_code 3 = 1 by decide)) (mm_fit_of cbX8_isCode (by decide) (by decide)) wq1105 wq1106 rfl rfl (Nat.le_of_ble_eq_true rfl) (by decide) (by decide) rfl dX8_codeRing_3 ?_
  refine aw_rV (As := [.int 1]) (S := [.ref (ad 14 0 0)]) (v := some (.int 0)) (o2 := o) (ct_need_1) (mm_fit_of cbX8_need (by decide) (by decide)) wq1053 cvX8_need wv14 rfl rfl rfl (Nat.le_of_ble_eq_true rfl) (by decide) (by decide) rfl dX8_codeRing_6 ?_
  refine aw_rV (As := [.int 0]) (S := []) (v := some (.int 0)) (o2 := (wd_w o 12 1 0)) (ct_refused_0) (mm_fit_of cbX8_refused (by decide) (by decide)) wq922 cvX8_refused wv14 rfl rfl rfl (Nat.le_of_ble_eq_true rfl) (by decide) (by decide) rfl dX8_codeRing_9 ?_
  obtain ⟨o1, ho1⟩ : ∃ z, z = (wd_w o 12 1 0) := ⟨_, rfl⟩
  rw [← ho1]
  have Go1 : cg (o1.1 8) n m := by rw [ho1]; rw [wd_w_row, row_ne _ _ (by decide)]; exact G
  refine aw_if_eq (tgt := 17) (by decide) dX8_codeRing_12 (fun _ => ?_) (fun z => absurd z (by decide))
  refine aw_iload_n (x := k) rfl dX8_codeRing_17 ?_
  refine aw_iconst (v := 0) (by decide) dX8_codeRing_18 ?_
  refine aw_iload_n (x := 3) rfl dX8_codeRing_19 ?_
  refine aw_rS (As := [.int 3]) (S := [.int 0, .int k]) (v := some (.int 2)) (o2 := o1) ct_X8_ringsOf_3 (mm_fit_of cbX8_ringsOf (by decide) (by decide)) wq1068 wq1069 rfl rfl (Nat.le_of_ble_eq_true rfl) (by decide) (by decide) rfl dX8_codeRing_20 ?_
  refine aw_iconst (v := 1) (by decide) dX8_codeRing_23 ?_
  refine aw_isubz (z := 1) (by decide) dX8_codeRing_24 ?_
  by_cases w1 : k < 0
  · skip
    refine aw_rS (As := [.int k, .int 0, .int 1]) (S := []) (v := some (.int 0)) (o2 := o1) (ct_within_lo w1) (mm_fit_of cbX8_within (by decide) (by decide)) wq938 wq939 rfl rfl (Nat.le_of_ble_eq_true rfl) (by decide) (by decide) rfl dX8_codeRing_25 ?_
    refine aw_if_eq (tgt := 39) (by decide) dX8_codeRing_28 (fun _ => ?_) (fun z => absurd z (by decide))
    refine aw_iconst (v := (-1)) (by decide) dX8_codeRing_39 ?_
    exact aw_iret rfl (by decide) (by decide) dX8_codeRing_40 ⟨by (subst ho1; first | rfl | decide | (rw [tc_cr, if_pos w1]; done) | (show Sum.inl (some (Value.int (-1))) = (oI (tc_cr 3 k) _).1; rw [tc_cr, if_pos w1]; rfl)), by (subst ho1; rfl)⟩
  · skip
    by_cases zw1 : k > 1
    · skip
      refine aw_rS (As := [.int k, .int 0, .int 1]) (S := []) (v := some (.int 0)) (o2 := o1) (ct_within_hi zw1) (mm_fit_of cbX8_within (by decide) (by decide)) wq938 wq939 rfl rfl (Nat.le_of_ble_eq_true rfl) (by decide) (by decide) rfl dX8_codeRing_25 ?_
      refine aw_if_eq (tgt := 39) (by decide) dX8_codeRing_28 (fun _ => ?_) (fun z => absurd z (by decide))
      refine aw_iconst (v := (-1)) (by decide) dX8_codeRing_39 ?_
      exact aw_iret rfl (by decide) (by decide) dX8_codeRing_40 ⟨by (subst ho1; first | rfl | decide | (show Sum.inl (some (Value.int (-1))) = (oI (tc_cr 3 k) _).1; rw [tc_cr, if_neg w1, show tc_n 3 = nI (1 + 1) by decide, if_neg (gt_nlt (by decide) zw1)]; rfl)), by (subst ho1; rfl)⟩
    · skip
      refine aw_rS (As := [.int k, .int 0, .int 1]) (S := []) (v := some (.int 1)) (o2 := o1) (ct_within_in w1 zw1) (mm_fit_of cbX8_within (by decide) (by decide)) wq938 wq939 rfl rfl (Nat.le_of_ble_eq_true rfl) (by decide) (by decide) rfl dX8_codeRing_25 ?_
      refine aw_if_eq (tgt := 39) (by decide) dX8_codeRing_28 (fun z => absurd z (by decide)) (fun _ => ?_)
      refine aw_iload_n (x := 3) rfl dX8_codeRing_31 ?_
      refine aw_iload_n (x := k) rfl dX8_codeRing_32 ?_
      rcases i32_t2 w1 (le_lt (k := 1) (by decide) zw1) with rfl | rfl
      · skip
        refine aw_rS (As := [.int 3, .int 0]) (S := []) (v := some (.int 0)) (o2 := o1) ct_X8_ringOf_3_0 (mm_fit_of cbX8_ringOf (by decide) (by decide)) wq1071 wq1072 rfl rfl (Nat.le_of_ble_eq_true rfl) (by decide) (by decide) rfl dX8_codeRing_33 ?_
        refine aw_goto (tgt := 40) (by decide) dX8_codeRing_36 ?_
        exact aw_iret rfl (by decide) (by decide) dX8_codeRing_40 ⟨by (subst ho1; first | rfl | decide), by (subst ho1; rfl)⟩
      · skip
        refine aw_rS (As := [.int 3, .int 1]) (S := []) (v := some (.int 0)) (o2 := o1) ct_X8_ringOf_3_1 (mm_fit_of cbX8_ringOf (by decide) (by decide)) wq1071 wq1072 rfl rfl (Nat.le_of_ble_eq_true rfl) (by decide) (by decide) rfl dX8_codeRing_33 ?_
        refine aw_goto (tgt := 40) (by decide) dX8_codeRing_36 ?_
        exact aw_iret rfl (by decide) (by decide) dX8_codeRing_40 ⟨by (subst ho1; first | rfl | decide), by (subst ho1; rfl)⟩
theorem rt_cring_4 {ad : Nat → Nat → Nat → Nat} {o : wd_S} {n m c : Nat} (V : mv o n m c) {k : Int32} : CT ad MX8_codeRing [.ref (ad 14 0 0), .int 4, .int k] o (OT (oI (tc_cr 4 k) (wd_w o 12 1 0))) := by
  obtain ⟨G, hk, hc⟩ := id V
  obtain ⟨g1, g2, g3, g4, g5, g6⟩ := id G
  refine CT.of (L := [some (.ref (ad 14 0 0)), some (.int 4), some (.int k)]) rfl rfl (by decide) (Nat.le_of_ble_eq_true rfl) rfl ?_
  refine aw_aload_n (x := ad 14 0 0) rfl dX8_codeRing_0 ?_
  refine aw_aload_n (x := ad 14 0 0) rfl dX8_codeRing_1 ?_
  refine aw_iload_n (x := 4) rfl dX8_codeRing_2 ?_
  refine aw_rS (As := [.int 4]) (S := [.ref (ad 14 0 0), .ref (ad 14 0 0)]) (v := some (.int 1)) (o2 := o) (RTv ct_X8_isCode (show mf_code 4 = 1 by decide)) (mm_fit_of cbX8_isCode (by decide) (by decide)) wq1105 wq1106 rfl rfl (Nat.le_of_ble_eq_true rfl) (by decide) (by decide) rfl dX8_codeRing_3 ?_
  refine aw_rV (As := [.int 1]) (S := [.ref (ad 14 0 0)]) (v := some (.int 0)) (o2 := o) (ct_need_1) (mm_fit_of cbX8_need (by decide) (by decide)) wq1053 cvX8_need wv14 rfl rfl rfl (Nat.le_of_ble_eq_true rfl) (by decide) (by decide) rfl dX8_codeRing_6 ?_
  refine aw_rV (As := [.int 0]) (S := []) (v := some (.int 0)) (o2 := (wd_w o 12 1 0)) (ct_refused_0) (mm_fit_of cbX8_refused (by decide) (by decide)) wq922 cvX8_refused wv14 rfl rfl rfl (Nat.le_of_ble_eq_true rfl) (by decide) (by decide) rfl dX8_codeRing_9 ?_
  obtain ⟨o1, ho1⟩ : ∃ z, z = (wd_w o 12 1 0) := ⟨_, rfl⟩
  rw [← ho1]
  have Go1 : cg (o1.1 8) n m := by rw [ho1]; rw [wd_w_row, row_ne _ _ (by decide)]; exact G
  refine aw_if_eq (tgt := 17) (by decide) dX8_codeRing_12 (fun _ => ?_) (fun z => absurd z (by decide))
  refine aw_iload_n (x := k) rfl dX8_codeRing_17 ?_
  refine aw_iconst (v := 0) (by decide) dX8_codeRing_18 ?_
  refine aw_iload_n (x := 4) rfl dX8_codeRing_19 ?_
  refine aw_rS (As := [.int 4]) (S := [.int 0, .int k]) (v := some (.int 2)) (o2 := o1) ct_X8_ringsOf_4 (mm_fit_of cbX8_ringsOf (by decide) (by decide)) wq1068 wq1069 rfl rfl (Nat.le_of_ble_eq_true rfl) (by decide) (by decide) rfl dX8_codeRing_20 ?_
  refine aw_iconst (v := 1) (by decide) dX8_codeRing_23 ?_
  refine aw_isubz (z := 1) (by decide) dX8_codeRing_24 ?_
  by_cases w1 : k < 0
  · skip
    refine aw_rS (As := [.int k, .int 0, .int 1]) (S := []) (v := some (.int 0)) (o2 := o1) (ct_within_lo w1) (mm_fit_of cbX8_within (by decide) (by decide)) wq938 wq939 rfl rfl (Nat.le_of_ble_eq_true rfl) (by decide) (by decide) rfl dX8_codeRing_25 ?_
    refine aw_if_eq (tgt := 39) (by decide) dX8_codeRing_28 (fun _ => ?_) (fun z => absurd z (by decide))
    refine aw_iconst (v := (-1)) (by decide) dX8_codeRing_39 ?_
    exact aw_iret rfl (by decide) (by decide) dX8_codeRing_40 ⟨by (subst ho1; first | rfl | decide | (rw [tc_cr, if_pos w1]; done) | (show Sum.inl (some (Value.int (-1))) = (oI (tc_cr 4 k) _).1; rw [tc_cr, if_pos w1]; rfl)), by (subst ho1; rfl)⟩
  · skip
    by_cases zw1 : k > 1
    · skip
      refine aw_rS (As := [.int k, .int 0, .int 1]) (S := []) (v := some (.int 0)) (o2 := o1) (ct_within_hi zw1) (mm_fit_of cbX8_within (by decide) (by decide)) wq938 wq939 rfl rfl (Nat.le_of_ble_eq_true rfl) (by decide) (by decide) rfl dX8_codeRing_25 ?_
      refine aw_if_eq (tgt := 39) (by decide) dX8_codeRing_28 (fun _ => ?_) (fun z => absurd z (by decide))
      refine aw_iconst (v := (-1)) (by decide) dX8_codeRing_39 ?_
      exact aw_iret rfl (by decide) (by decide) dX8_codeRing_40 ⟨by (subst ho1; first | rfl | decide | (show Sum.inl (some (Value.int (-1))) = (oI (tc_cr 4 k) _).1; rw [tc_cr, if_neg w1, show tc_n 4 = nI (1 + 1) by decide, if_neg (gt_nlt (by decide) zw1)]; rfl)), by (subst ho1; rfl)⟩
    · skip
      refine aw_rS (As := [.int k, .int 0, .int 1]) (S := []) (v := some (.int 1)) (o2 := o1) (ct_within_in w1 zw1) (mm_fit_of cbX8_within (by decide) (by decide)) wq938 wq939 rfl rfl (Nat.le_of_ble_eq_true rfl) (by decide) (by decide) rfl dX8_codeRing_25 ?_
      refine aw_if_eq (tgt := 39) (by decide) dX8_codeRing_28 (fun z => absurd z (by decide)) (fun _ => ?_)
      refine aw_iload_n (x := 4) rfl dX8_codeRing_31 ?_
      refine aw_iload_n (x := k) rfl dX8_codeRing_32 ?_
      rcases i32_t2 w1 (le_lt (k := 1) (by decide) zw1) with rfl | rfl
      · skip
        refine aw_rS (As := [.int 4, .int 0]) (S := []) (v := some (.int 0)) (o2 := o1) ct_X8_ringOf_4_0 (mm_fit_of cbX8_ringOf (by decide) (by decide)) wq1071 wq1072 rfl rfl (Nat.le_of_ble_eq_true rfl) (by decide) (by decide) rfl dX8_codeRing_33 ?_
        refine aw_goto (tgt := 40) (by decide) dX8_codeRing_36 ?_
        exact aw_iret rfl (by decide) (by decide) dX8_codeRing_40 ⟨by (subst ho1; first | rfl | decide), by (subst ho1; rfl)⟩
      · skip
        refine aw_rS (As := [.int 4, .int 1]) (S := []) (v := some (.int 1)) (o2 := o1) ct_X8_ringOf_4_1 (mm_fit_of cbX8_ringOf (by decide) (by decide)) wq1071 wq1072 rfl rfl (Nat.le_of_ble_eq_true rfl) (by decide) (by decide) rfl dX8_codeRing_33 ?_
        refine aw_goto (tgt := 40) (by decide) dX8_codeRing_36 ?_
        exact aw_iret rfl (by decide) (by decide) dX8_codeRing_40 ⟨by (subst ho1; first | rfl | decide), by (subst ho1; rfl)⟩
theorem rt_cring_5 {ad : Nat → Nat → Nat → Nat} {o : wd_S} {n m c : Nat} (V : mv o n m c) {k : Int32} : CT ad MX8_codeRing [.ref (ad 14 0 0), .int 5, .int k] o (OT (oI (tc_cr 5 k) (wd_w o 12 1 0))) := by
  obtain ⟨G, hk, hc⟩ := id V
  obtain ⟨g1, g2, g3, g4, g5, g6⟩ := id G
  refine CT.of (L := [some (.ref (ad 14 0 0)), some (.int 5), some (.int k)]) rfl rfl (by decide) (Nat.le_of_ble_eq_true rfl) rfl ?_
  refine aw_aload_n (x := ad 14 0 0) rfl dX8_codeRing_0 ?_
  refine aw_aload_n (x := ad 14 0 0) rfl dX8_codeRing_1 ?_
  refine aw_iload_n (x := 5) rfl dX8_codeRing_2 ?_
  refine aw_rS (As := [.int 5]) (S := [.ref (ad 14 0 0), .ref (ad 14 0 0)]) (v := some (.int 1)) (o2 := o) (RTv ct_X8_isCode (show mf_code 5 = 1 by decide)) (mm_fit_of cbX8_isCode (by decide) (by decide)) wq1105 wq1106 rfl rfl (Nat.le_of_ble_eq_true rfl) (by decide) (by decide) rfl dX8_codeRing_3 ?_
  refine aw_rV (As := [.int 1]) (S := [.ref (ad 14 0 0)]) (v := some (.int 0)) (o2 := o) (ct_need_1) (mm_fit_of cbX8_need (by decide) (by decide)) wq1053 cvX8_need wv14 rfl rfl rfl (Nat.le_of_ble_eq_true rfl) (by decide) (by decide) rfl dX8_codeRing_6 ?_
  refine aw_rV (As := [.int 0]) (S := []) (v := some (.int 0)) (o2 := (wd_w o 12 1 0)) (ct_refused_0) (mm_fit_of cbX8_refused (by decide) (by decide)) wq922 cvX8_refused wv14 rfl rfl rfl (Nat.le_of_ble_eq_true rfl) (by decide) (by decide) rfl dX8_codeRing_9 ?_
  obtain ⟨o1, ho1⟩ : ∃ z, z = (wd_w o 12 1 0) := ⟨_, rfl⟩
  rw [← ho1]
  have Go1 : cg (o1.1 8) n m := by rw [ho1]; rw [wd_w_row, row_ne _ _ (by decide)]; exact G
  refine aw_if_eq (tgt := 17) (by decide) dX8_codeRing_12 (fun _ => ?_) (fun z => absurd z (by decide))
  refine aw_iload_n (x := k) rfl dX8_codeRing_17 ?_
  refine aw_iconst (v := 0) (by decide) dX8_codeRing_18 ?_
  refine aw_iload_n (x := 5) rfl dX8_codeRing_19 ?_
  refine aw_rS (As := [.int 5]) (S := [.int 0, .int k]) (v := some (.int 2)) (o2 := o1) ct_X8_ringsOf_5 (mm_fit_of cbX8_ringsOf (by decide) (by decide)) wq1068 wq1069 rfl rfl (Nat.le_of_ble_eq_true rfl) (by decide) (by decide) rfl dX8_codeRing_20 ?_
  refine aw_iconst (v := 1) (by decide) dX8_codeRing_23 ?_
  refine aw_isubz (z := 1) (by decide) dX8_codeRing_24 ?_
  by_cases w1 : k < 0
  · skip
    refine aw_rS (As := [.int k, .int 0, .int 1]) (S := []) (v := some (.int 0)) (o2 := o1) (ct_within_lo w1) (mm_fit_of cbX8_within (by decide) (by decide)) wq938 wq939 rfl rfl (Nat.le_of_ble_eq_true rfl) (by decide) (by decide) rfl dX8_codeRing_25 ?_
    refine aw_if_eq (tgt := 39) (by decide) dX8_codeRing_28 (fun _ => ?_) (fun z => absurd z (by decide))
    refine aw_iconst (v := (-1)) (by decide) dX8_codeRing_39 ?_
    exact aw_iret rfl (by decide) (by decide) dX8_codeRing_40 ⟨by (subst ho1; first | rfl | decide | (rw [tc_cr, if_pos w1]; done) | (show Sum.inl (some (Value.int (-1))) = (oI (tc_cr 5 k) _).1; rw [tc_cr, if_pos w1]; rfl)), by (subst ho1; rfl)⟩
  · skip
    by_cases zw1 : k > 1
    · skip
      refine aw_rS (As := [.int k, .int 0, .int 1]) (S := []) (v := some (.int 0)) (o2 := o1) (ct_within_hi zw1) (mm_fit_of cbX8_within (by decide) (by decide)) wq938 wq939 rfl rfl (Nat.le_of_ble_eq_true rfl) (by decide) (by decide) rfl dX8_codeRing_25 ?_
      refine aw_if_eq (tgt := 39) (by decide) dX8_codeRing_28 (fun _ => ?_) (fun z => absurd z (by decide))
      refine aw_iconst (v := (-1)) (by decide) dX8_codeRing_39 ?_
      exact aw_iret rfl (by decide) (by decide) dX8_codeRing_40 ⟨by (subst ho1; first | rfl | decide | (show Sum.inl (some (Value.int (-1))) = (oI (tc_cr 5 k) _).1; rw [tc_cr, if_neg w1, show tc_n 5 = nI (1 + 1) by decide, if_neg (gt_nlt (by decide) zw1)]; rfl)), by (subst ho1; rfl)⟩
    · skip
      refine aw_rS (As := [.int k, .int 0, .int 1]) (S := []) (v := some (.int 1)) (o2 := o1) (ct_within_in w1 zw1) (mm_fit_of cbX8_within (by decide) (by decide)) wq938 wq939 rfl rfl (Nat.le_of_ble_eq_true rfl) (by decide) (by decide) rfl dX8_codeRing_25 ?_
      refine aw_if_eq (tgt := 39) (by decide) dX8_codeRing_28 (fun z => absurd z (by decide)) (fun _ => ?_)
      refine aw_iload_n (x := 5) rfl dX8_codeRing_31 ?_
      refine aw_iload_n (x := k) rfl dX8_codeRing_32 ?_
      rcases i32_t2 w1 (le_lt (k := 1) (by decide) zw1) with rfl | rfl
      · skip
        refine aw_rS (As := [.int 5, .int 0]) (S := []) (v := some (.int 1)) (o2 := o1) ct_X8_ringOf_5_0 (mm_fit_of cbX8_ringOf (by decide) (by decide)) wq1071 wq1072 rfl rfl (Nat.le_of_ble_eq_true rfl) (by decide) (by decide) rfl dX8_codeRing_33 ?_
        refine aw_goto (tgt := 40) (by decide) dX8_codeRing_36 ?_
        exact aw_iret rfl (by decide) (by decide) dX8_codeRing_40 ⟨by (subst ho1; first | rfl | decide), by (subst ho1; rfl)⟩
      · skip
        refine aw_rS (As := [.int 5, .int 1]) (S := []) (v := some (.int 0)) (o2 := o1) ct_X8_ringOf_5_1 (mm_fit_of cbX8_ringOf (by decide) (by decide)) wq1071 wq1072 rfl rfl (Nat.le_of_ble_eq_true rfl) (by decide) (by decide) rfl dX8_codeRing_33 ?_
        refine aw_goto (tgt := 40) (by decide) dX8_codeRing_36 ?_
        exact aw_iret rfl (by decide) (by decide) dX8_codeRing_40 ⟨by (subst ho1; first | rfl | decide), by (subst ho1; rfl)⟩
theorem rt_cring_6 {ad : Nat → Nat → Nat → Nat} {o : wd_S} {n m c : Nat} (V : mv o n m c) {k : Int32} : CT ad MX8_codeRing [.ref (ad 14 0 0), .int 6, .int k] o (OT (oI (tc_cr 6 k) (wd_w o 12 1 0))) := by
  obtain ⟨G, hk, hc⟩ := id V
  obtain ⟨g1, g2, g3, g4, g5, g6⟩ := id G
  refine CT.of (L := [some (.ref (ad 14 0 0)), some (.int 6), some (.int k)]) rfl rfl (by decide) (Nat.le_of_ble_eq_true rfl) rfl ?_
  refine aw_aload_n (x := ad 14 0 0) rfl dX8_codeRing_0 ?_
  refine aw_aload_n (x := ad 14 0 0) rfl dX8_codeRing_1 ?_
  refine aw_iload_n (x := 6) rfl dX8_codeRing_2 ?_
  refine aw_rS (As := [.int 6]) (S := [.ref (ad 14 0 0), .ref (ad 14 0 0)]) (v := some (.int 1)) (o2 := o) (RTv ct_X8_isCode (show mf_code 6 = 1 by decide)) (mm_fit_of cbX8_isCode (by decide) (by decide)) wq1105 wq1106 rfl rfl (Nat.le_of_ble_eq_true rfl) (by decide) (by decide) rfl dX8_codeRing_3 ?_
  refine aw_rV (As := [.int 1]) (S := [.ref (ad 14 0 0)]) (v := some (.int 0)) (o2 := o) (ct_need_1) (mm_fit_of cbX8_need (by decide) (by decide)) wq1053 cvX8_need wv14 rfl rfl rfl (Nat.le_of_ble_eq_true rfl) (by decide) (by decide) rfl dX8_codeRing_6 ?_
  refine aw_rV (As := [.int 0]) (S := []) (v := some (.int 0)) (o2 := (wd_w o 12 1 0)) (ct_refused_0) (mm_fit_of cbX8_refused (by decide) (by decide)) wq922 cvX8_refused wv14 rfl rfl rfl (Nat.le_of_ble_eq_true rfl) (by decide) (by decide) rfl dX8_codeRing_9 ?_
  obtain ⟨o1, ho1⟩ : ∃ z, z = (wd_w o 12 1 0) := ⟨_, rfl⟩
  rw [← ho1]
  have Go1 : cg (o1.1 8) n m := by rw [ho1]; rw [wd_w_row, row_ne _ _ (by decide)]; exact G
  refine aw_if_eq (tgt := 17) (by decide) dX8_codeRing_12 (fun _ => ?_) (fun z => absurd z (by decide))
  refine aw_iload_n (x := k) rfl dX8_codeRing_17 ?_
  refine aw_iconst (v := 0) (by decide) dX8_codeRing_18 ?_
  refine aw_iload_n (x := 6) rfl dX8_codeRing_19 ?_
  refine aw_rS (As := [.int 6]) (S := [.int 0, .int k]) (v := some (.int 2)) (o2 := o1) ct_X8_ringsOf_6 (mm_fit_of cbX8_ringsOf (by decide) (by decide)) wq1068 wq1069 rfl rfl (Nat.le_of_ble_eq_true rfl) (by decide) (by decide) rfl dX8_codeRing_20 ?_
  refine aw_iconst (v := 1) (by decide) dX8_codeRing_23 ?_
  refine aw_isubz (z := 1) (by decide) dX8_codeRing_24 ?_
  by_cases w1 : k < 0
  · skip
    refine aw_rS (As := [.int k, .int 0, .int 1]) (S := []) (v := some (.int 0)) (o2 := o1) (ct_within_lo w1) (mm_fit_of cbX8_within (by decide) (by decide)) wq938 wq939 rfl rfl (Nat.le_of_ble_eq_true rfl) (by decide) (by decide) rfl dX8_codeRing_25 ?_
    refine aw_if_eq (tgt := 39) (by decide) dX8_codeRing_28 (fun _ => ?_) (fun z => absurd z (by decide))
    refine aw_iconst (v := (-1)) (by decide) dX8_codeRing_39 ?_
    exact aw_iret rfl (by decide) (by decide) dX8_codeRing_40 ⟨by (subst ho1; first | rfl | decide | (rw [tc_cr, if_pos w1]; done) | (show Sum.inl (some (Value.int (-1))) = (oI (tc_cr 6 k) _).1; rw [tc_cr, if_pos w1]; rfl)), by (subst ho1; rfl)⟩
  · skip
    by_cases zw1 : k > 1
    · skip
      refine aw_rS (As := [.int k, .int 0, .int 1]) (S := []) (v := some (.int 0)) (o2 := o1) (ct_within_hi zw1) (mm_fit_of cbX8_within (by decide) (by decide)) wq938 wq939 rfl rfl (Nat.le_of_ble_eq_true rfl) (by decide) (by decide) rfl dX8_codeRing_25 ?_
      refine aw_if_eq (tgt := 39) (by decide) dX8_codeRing_28 (fun _ => ?_) (fun z => absurd z (by decide))
      refine aw_iconst (v := (-1)) (by decide) dX8_codeRing_39 ?_
      exact aw_iret rfl (by decide) (by decide) dX8_codeRing_40 ⟨by (subst ho1; first | rfl | decide | (show Sum.inl (some (Value.int (-1))) = (oI (tc_cr 6 k) _).1; rw [tc_cr, if_neg w1, show tc_n 6 = nI (1 + 1) by decide, if_neg (gt_nlt (by decide) zw1)]; rfl)), by (subst ho1; rfl)⟩
    · skip
      refine aw_rS (As := [.int k, .int 0, .int 1]) (S := []) (v := some (.int 1)) (o2 := o1) (ct_within_in w1 zw1) (mm_fit_of cbX8_within (by decide) (by decide)) wq938 wq939 rfl rfl (Nat.le_of_ble_eq_true rfl) (by decide) (by decide) rfl dX8_codeRing_25 ?_
      refine aw_if_eq (tgt := 39) (by decide) dX8_codeRing_28 (fun z => absurd z (by decide)) (fun _ => ?_)
      refine aw_iload_n (x := 6) rfl dX8_codeRing_31 ?_
      refine aw_iload_n (x := k) rfl dX8_codeRing_32 ?_
      rcases i32_t2 w1 (le_lt (k := 1) (by decide) zw1) with rfl | rfl
      · skip
        refine aw_rS (As := [.int 6, .int 0]) (S := []) (v := some (.int 1)) (o2 := o1) ct_X8_ringOf_6_0 (mm_fit_of cbX8_ringOf (by decide) (by decide)) wq1071 wq1072 rfl rfl (Nat.le_of_ble_eq_true rfl) (by decide) (by decide) rfl dX8_codeRing_33 ?_
        refine aw_goto (tgt := 40) (by decide) dX8_codeRing_36 ?_
        exact aw_iret rfl (by decide) (by decide) dX8_codeRing_40 ⟨by (subst ho1; first | rfl | decide), by (subst ho1; rfl)⟩
      · skip
        refine aw_rS (As := [.int 6, .int 1]) (S := []) (v := some (.int 1)) (o2 := o1) ct_X8_ringOf_6_1 (mm_fit_of cbX8_ringOf (by decide) (by decide)) wq1071 wq1072 rfl rfl (Nat.le_of_ble_eq_true rfl) (by decide) (by decide) rfl dX8_codeRing_33 ?_
        refine aw_goto (tgt := 40) (by decide) dX8_codeRing_36 ?_
        exact aw_iret rfl (by decide) (by decide) dX8_codeRing_40 ⟨by (subst ho1; first | rfl | decide), by (subst ho1; rfl)⟩
theorem rt_cring_7 {ad : Nat → Nat → Nat → Nat} {o : wd_S} {n m c : Nat} (V : mv o n m c) {k : Int32} : CT ad MX8_codeRing [.ref (ad 14 0 0), .int 7, .int k] o (OT (oI (tc_cr 7 k) (wd_w o 12 1 0))) := by
  obtain ⟨G, hk, hc⟩ := id V
  obtain ⟨g1, g2, g3, g4, g5, g6⟩ := id G
  refine CT.of (L := [some (.ref (ad 14 0 0)), some (.int 7), some (.int k)]) rfl rfl (by decide) (Nat.le_of_ble_eq_true rfl) rfl ?_
  refine aw_aload_n (x := ad 14 0 0) rfl dX8_codeRing_0 ?_
  refine aw_aload_n (x := ad 14 0 0) rfl dX8_codeRing_1 ?_
  refine aw_iload_n (x := 7) rfl dX8_codeRing_2 ?_
  refine aw_rS (As := [.int 7]) (S := [.ref (ad 14 0 0), .ref (ad 14 0 0)]) (v := some (.int 1)) (o2 := o) (RTv ct_X8_isCode (show mf_code 7 = 1 by decide)) (mm_fit_of cbX8_isCode (by decide) (by decide)) wq1105 wq1106 rfl rfl (Nat.le_of_ble_eq_true rfl) (by decide) (by decide) rfl dX8_codeRing_3 ?_
  refine aw_rV (As := [.int 1]) (S := [.ref (ad 14 0 0)]) (v := some (.int 0)) (o2 := o) (ct_need_1) (mm_fit_of cbX8_need (by decide) (by decide)) wq1053 cvX8_need wv14 rfl rfl rfl (Nat.le_of_ble_eq_true rfl) (by decide) (by decide) rfl dX8_codeRing_6 ?_
  refine aw_rV (As := [.int 0]) (S := []) (v := some (.int 0)) (o2 := (wd_w o 12 1 0)) (ct_refused_0) (mm_fit_of cbX8_refused (by decide) (by decide)) wq922 cvX8_refused wv14 rfl rfl rfl (Nat.le_of_ble_eq_true rfl) (by decide) (by decide) rfl dX8_codeRing_9 ?_
  obtain ⟨o1, ho1⟩ : ∃ z, z = (wd_w o 12 1 0) := ⟨_, rfl⟩
  rw [← ho1]
  have Go1 : cg (o1.1 8) n m := by rw [ho1]; rw [wd_w_row, row_ne _ _ (by decide)]; exact G
  refine aw_if_eq (tgt := 17) (by decide) dX8_codeRing_12 (fun _ => ?_) (fun z => absurd z (by decide))
  refine aw_iload_n (x := k) rfl dX8_codeRing_17 ?_
  refine aw_iconst (v := 0) (by decide) dX8_codeRing_18 ?_
  refine aw_iload_n (x := 7) rfl dX8_codeRing_19 ?_
  refine aw_rS (As := [.int 7]) (S := [.int 0, .int k]) (v := some (.int 3)) (o2 := o1) ct_X8_ringsOf_7 (mm_fit_of cbX8_ringsOf (by decide) (by decide)) wq1068 wq1069 rfl rfl (Nat.le_of_ble_eq_true rfl) (by decide) (by decide) rfl dX8_codeRing_20 ?_
  refine aw_iconst (v := 1) (by decide) dX8_codeRing_23 ?_
  refine aw_isubz (z := 2) (by decide) dX8_codeRing_24 ?_
  by_cases w1 : k < 0
  · skip
    refine aw_rS (As := [.int k, .int 0, .int 2]) (S := []) (v := some (.int 0)) (o2 := o1) (ct_within_lo w1) (mm_fit_of cbX8_within (by decide) (by decide)) wq938 wq939 rfl rfl (Nat.le_of_ble_eq_true rfl) (by decide) (by decide) rfl dX8_codeRing_25 ?_
    refine aw_if_eq (tgt := 39) (by decide) dX8_codeRing_28 (fun _ => ?_) (fun z => absurd z (by decide))
    refine aw_iconst (v := (-1)) (by decide) dX8_codeRing_39 ?_
    exact aw_iret rfl (by decide) (by decide) dX8_codeRing_40 ⟨by (subst ho1; first | rfl | decide | (rw [tc_cr, if_pos w1]; done) | (show Sum.inl (some (Value.int (-1))) = (oI (tc_cr 7 k) _).1; rw [tc_cr, if_pos w1]; rfl)), by (subst ho1; rfl)⟩
  · skip
    by_cases zw1 : k > 2
    · skip
      refine aw_rS (As := [.int k, .int 0, .int 2]) (S := []) (v := some (.int 0)) (o2 := o1) (ct_within_hi zw1) (mm_fit_of cbX8_within (by decide) (by decide)) wq938 wq939 rfl rfl (Nat.le_of_ble_eq_true rfl) (by decide) (by decide) rfl dX8_codeRing_25 ?_
      refine aw_if_eq (tgt := 39) (by decide) dX8_codeRing_28 (fun _ => ?_) (fun z => absurd z (by decide))
      refine aw_iconst (v := (-1)) (by decide) dX8_codeRing_39 ?_
      exact aw_iret rfl (by decide) (by decide) dX8_codeRing_40 ⟨by (subst ho1; first | rfl | decide | (show Sum.inl (some (Value.int (-1))) = (oI (tc_cr 7 k) _).1; rw [tc_cr, if_neg w1, show tc_n 7 = nI (2 + 1) by decide, if_neg (gt_nlt (by decide) zw1)]; rfl)), by (subst ho1; rfl)⟩
    · skip
      refine aw_rS (As := [.int k, .int 0, .int 2]) (S := []) (v := some (.int 1)) (o2 := o1) (ct_within_in w1 zw1) (mm_fit_of cbX8_within (by decide) (by decide)) wq938 wq939 rfl rfl (Nat.le_of_ble_eq_true rfl) (by decide) (by decide) rfl dX8_codeRing_25 ?_
      refine aw_if_eq (tgt := 39) (by decide) dX8_codeRing_28 (fun z => absurd z (by decide)) (fun _ => ?_)
      refine aw_iload_n (x := 7) rfl dX8_codeRing_31 ?_
      refine aw_iload_n (x := k) rfl dX8_codeRing_32 ?_
      rcases i32_t3 w1 (le_lt (k := 2) (by decide) zw1) with rfl | rfl | rfl
      · skip
        refine aw_rS (As := [.int 7, .int 0]) (S := []) (v := some (.int 0)) (o2 := o1) ct_X8_ringOf_7_0 (mm_fit_of cbX8_ringOf (by decide) (by decide)) wq1071 wq1072 rfl rfl (Nat.le_of_ble_eq_true rfl) (by decide) (by decide) rfl dX8_codeRing_33 ?_
        refine aw_goto (tgt := 40) (by decide) dX8_codeRing_36 ?_
        exact aw_iret rfl (by decide) (by decide) dX8_codeRing_40 ⟨by (subst ho1; first | rfl | decide), by (subst ho1; rfl)⟩
      · skip
        refine aw_rS (As := [.int 7, .int 1]) (S := []) (v := some (.int 0)) (o2 := o1) ct_X8_ringOf_7_1 (mm_fit_of cbX8_ringOf (by decide) (by decide)) wq1071 wq1072 rfl rfl (Nat.le_of_ble_eq_true rfl) (by decide) (by decide) rfl dX8_codeRing_33 ?_
        refine aw_goto (tgt := 40) (by decide) dX8_codeRing_36 ?_
        exact aw_iret rfl (by decide) (by decide) dX8_codeRing_40 ⟨by (subst ho1; first | rfl | decide), by (subst ho1; rfl)⟩
      · skip
        refine aw_rS (As := [.int 7, .int 2]) (S := []) (v := some (.int 0)) (o2 := o1) ct_X8_ringOf_7_2 (mm_fit_of cbX8_ringOf (by decide) (by decide)) wq1071 wq1072 rfl rfl (Nat.le_of_ble_eq_true rfl) (by decide) (by decide) rfl dX8_codeRing_33 ?_
        refine aw_goto (tgt := 40) (by decide) dX8_codeRing_36 ?_
        exact aw_iret rfl (by decide) (by decide) dX8_codeRing_40 ⟨by (subst ho1; first | rfl | decide), by (subst ho1; rfl)⟩
theorem rt_cring_8 {ad : Nat → Nat → Nat → Nat} {o : wd_S} {n m c : Nat} (V : mv o n m c) {k : Int32} : CT ad MX8_codeRing [.ref (ad 14 0 0), .int 8, .int k] o (OT (oI (tc_cr 8 k) (wd_w o 12 1 0))) := by
  obtain ⟨G, hk, hc⟩ := id V
  obtain ⟨g1, g2, g3, g4, g5, g6⟩ := id G
  refine CT.of (L := [some (.ref (ad 14 0 0)), some (.int 8), some (.int k)]) rfl rfl (by decide) (Nat.le_of_ble_eq_true rfl) rfl ?_
  refine aw_aload_n (x := ad 14 0 0) rfl dX8_codeRing_0 ?_
  refine aw_aload_n (x := ad 14 0 0) rfl dX8_codeRing_1 ?_
  refine aw_iload_n (x := 8) rfl dX8_codeRing_2 ?_
  refine aw_rS (As := [.int 8]) (S := [.ref (ad 14 0 0), .ref (ad 14 0 0)]) (v := some (.int 1)) (o2 := o) (RTv ct_X8_isCode (show mf_code 8 = 1 by decide)) (mm_fit_of cbX8_isCode (by decide) (by decide)) wq1105 wq1106 rfl rfl (Nat.le_of_ble_eq_true rfl) (by decide) (by decide) rfl dX8_codeRing_3 ?_
  refine aw_rV (As := [.int 1]) (S := [.ref (ad 14 0 0)]) (v := some (.int 0)) (o2 := o) (ct_need_1) (mm_fit_of cbX8_need (by decide) (by decide)) wq1053 cvX8_need wv14 rfl rfl rfl (Nat.le_of_ble_eq_true rfl) (by decide) (by decide) rfl dX8_codeRing_6 ?_
  refine aw_rV (As := [.int 0]) (S := []) (v := some (.int 0)) (o2 := (wd_w o 12 1 0)) (ct_refused_0) (mm_fit_of cbX8_refused (by decide) (by decide)) wq922 cvX8_refused wv14 rfl rfl rfl (Nat.le_of_ble_eq_true rfl) (by decide) (by decide) rfl dX8_codeRing_9 ?_
  obtain ⟨o1, ho1⟩ : ∃ z, z = (wd_w o 12 1 0) := ⟨_, rfl⟩
  rw [← ho1]
  have Go1 : cg (o1.1 8) n m := by rw [ho1]; rw [wd_w_row, row_ne _ _ (by decide)]; exact G
  refine aw_if_eq (tgt := 17) (by decide) dX8_codeRing_12 (fun _ => ?_) (fun z => absurd z (by decide))
  refine aw_iload_n (x := k) rfl dX8_codeRing_17 ?_
  refine aw_iconst (v := 0) (by decide) dX8_codeRing_18 ?_
  refine aw_iload_n (x := 8) rfl dX8_codeRing_19 ?_
  refine aw_rS (As := [.int 8]) (S := [.int 0, .int k]) (v := some (.int 3)) (o2 := o1) ct_X8_ringsOf_8 (mm_fit_of cbX8_ringsOf (by decide) (by decide)) wq1068 wq1069 rfl rfl (Nat.le_of_ble_eq_true rfl) (by decide) (by decide) rfl dX8_codeRing_20 ?_
  refine aw_iconst (v := 1) (by decide) dX8_codeRing_23 ?_
  refine aw_isubz (z := 2) (by decide) dX8_codeRing_24 ?_
  by_cases w1 : k < 0
  · skip
    refine aw_rS (As := [.int k, .int 0, .int 2]) (S := []) (v := some (.int 0)) (o2 := o1) (ct_within_lo w1) (mm_fit_of cbX8_within (by decide) (by decide)) wq938 wq939 rfl rfl (Nat.le_of_ble_eq_true rfl) (by decide) (by decide) rfl dX8_codeRing_25 ?_
    refine aw_if_eq (tgt := 39) (by decide) dX8_codeRing_28 (fun _ => ?_) (fun z => absurd z (by decide))
    refine aw_iconst (v := (-1)) (by decide) dX8_codeRing_39 ?_
    exact aw_iret rfl (by decide) (by decide) dX8_codeRing_40 ⟨by (subst ho1; first | rfl | decide | (rw [tc_cr, if_pos w1]; done) | (show Sum.inl (some (Value.int (-1))) = (oI (tc_cr 8 k) _).1; rw [tc_cr, if_pos w1]; rfl)), by (subst ho1; rfl)⟩
  · skip
    by_cases zw1 : k > 2
    · skip
      refine aw_rS (As := [.int k, .int 0, .int 2]) (S := []) (v := some (.int 0)) (o2 := o1) (ct_within_hi zw1) (mm_fit_of cbX8_within (by decide) (by decide)) wq938 wq939 rfl rfl (Nat.le_of_ble_eq_true rfl) (by decide) (by decide) rfl dX8_codeRing_25 ?_
      refine aw_if_eq (tgt := 39) (by decide) dX8_codeRing_28 (fun _ => ?_) (fun z => absurd z (by decide))
      refine aw_iconst (v := (-1)) (by decide) dX8_codeRing_39 ?_
      exact aw_iret rfl (by decide) (by decide) dX8_codeRing_40 ⟨by (subst ho1; first | rfl | decide | (show Sum.inl (some (Value.int (-1))) = (oI (tc_cr 8 k) _).1; rw [tc_cr, if_neg w1, show tc_n 8 = nI (2 + 1) by decide, if_neg (gt_nlt (by decide) zw1)]; rfl)), by (subst ho1; rfl)⟩
    · skip
      refine aw_rS (As := [.int k, .int 0, .int 2]) (S := []) (v := some (.int 1)) (o2 := o1) (ct_within_in w1 zw1) (mm_fit_of cbX8_within (by decide) (by decide)) wq938 wq939 rfl rfl (Nat.le_of_ble_eq_true rfl) (by decide) (by decide) rfl dX8_codeRing_25 ?_
      refine aw_if_eq (tgt := 39) (by decide) dX8_codeRing_28 (fun z => absurd z (by decide)) (fun _ => ?_)
      refine aw_iload_n (x := 8) rfl dX8_codeRing_31 ?_
      refine aw_iload_n (x := k) rfl dX8_codeRing_32 ?_
      rcases i32_t3 w1 (le_lt (k := 2) (by decide) zw1) with rfl | rfl | rfl
      · skip
        refine aw_rS (As := [.int 8, .int 0]) (S := []) (v := some (.int 0)) (o2 := o1) ct_X8_ringOf_8_0 (mm_fit_of cbX8_ringOf (by decide) (by decide)) wq1071 wq1072 rfl rfl (Nat.le_of_ble_eq_true rfl) (by decide) (by decide) rfl dX8_codeRing_33 ?_
        refine aw_goto (tgt := 40) (by decide) dX8_codeRing_36 ?_
        exact aw_iret rfl (by decide) (by decide) dX8_codeRing_40 ⟨by (subst ho1; first | rfl | decide), by (subst ho1; rfl)⟩
      · skip
        refine aw_rS (As := [.int 8, .int 1]) (S := []) (v := some (.int 0)) (o2 := o1) ct_X8_ringOf_8_1 (mm_fit_of cbX8_ringOf (by decide) (by decide)) wq1071 wq1072 rfl rfl (Nat.le_of_ble_eq_true rfl) (by decide) (by decide) rfl dX8_codeRing_33 ?_
        refine aw_goto (tgt := 40) (by decide) dX8_codeRing_36 ?_
        exact aw_iret rfl (by decide) (by decide) dX8_codeRing_40 ⟨by (subst ho1; first | rfl | decide), by (subst ho1; rfl)⟩
      · skip
        refine aw_rS (As := [.int 8, .int 2]) (S := []) (v := some (.int 1)) (o2 := o1) ct_X8_ringOf_8_2 (mm_fit_of cbX8_ringOf (by decide) (by decide)) wq1071 wq1072 rfl rfl (Nat.le_of_ble_eq_true rfl) (by decide) (by decide) rfl dX8_codeRing_33 ?_
        refine aw_goto (tgt := 40) (by decide) dX8_codeRing_36 ?_
        exact aw_iret rfl (by decide) (by decide) dX8_codeRing_40 ⟨by (subst ho1; first | rfl | decide), by (subst ho1; rfl)⟩
theorem rt_cring_9 {ad : Nat → Nat → Nat → Nat} {o : wd_S} {n m c : Nat} (V : mv o n m c) {k : Int32} : CT ad MX8_codeRing [.ref (ad 14 0 0), .int 9, .int k] o (OT (oI (tc_cr 9 k) (wd_w o 12 1 0))) := by
  obtain ⟨G, hk, hc⟩ := id V
  obtain ⟨g1, g2, g3, g4, g5, g6⟩ := id G
  refine CT.of (L := [some (.ref (ad 14 0 0)), some (.int 9), some (.int k)]) rfl rfl (by decide) (Nat.le_of_ble_eq_true rfl) rfl ?_
  refine aw_aload_n (x := ad 14 0 0) rfl dX8_codeRing_0 ?_
  refine aw_aload_n (x := ad 14 0 0) rfl dX8_codeRing_1 ?_
  refine aw_iload_n (x := 9) rfl dX8_codeRing_2 ?_
  refine aw_rS (As := [.int 9]) (S := [.ref (ad 14 0 0), .ref (ad 14 0 0)]) (v := some (.int 1)) (o2 := o) (RTv ct_X8_isCode (show mf_code 9 = 1 by decide)) (mm_fit_of cbX8_isCode (by decide) (by decide)) wq1105 wq1106 rfl rfl (Nat.le_of_ble_eq_true rfl) (by decide) (by decide) rfl dX8_codeRing_3 ?_
  refine aw_rV (As := [.int 1]) (S := [.ref (ad 14 0 0)]) (v := some (.int 0)) (o2 := o) (ct_need_1) (mm_fit_of cbX8_need (by decide) (by decide)) wq1053 cvX8_need wv14 rfl rfl rfl (Nat.le_of_ble_eq_true rfl) (by decide) (by decide) rfl dX8_codeRing_6 ?_
  refine aw_rV (As := [.int 0]) (S := []) (v := some (.int 0)) (o2 := (wd_w o 12 1 0)) (ct_refused_0) (mm_fit_of cbX8_refused (by decide) (by decide)) wq922 cvX8_refused wv14 rfl rfl rfl (Nat.le_of_ble_eq_true rfl) (by decide) (by decide) rfl dX8_codeRing_9 ?_
  obtain ⟨o1, ho1⟩ : ∃ z, z = (wd_w o 12 1 0) := ⟨_, rfl⟩
  rw [← ho1]
  have Go1 : cg (o1.1 8) n m := by rw [ho1]; rw [wd_w_row, row_ne _ _ (by decide)]; exact G
  refine aw_if_eq (tgt := 17) (by decide) dX8_codeRing_12 (fun _ => ?_) (fun z => absurd z (by decide))
  refine aw_iload_n (x := k) rfl dX8_codeRing_17 ?_
  refine aw_iconst (v := 0) (by decide) dX8_codeRing_18 ?_
  refine aw_iload_n (x := 9) rfl dX8_codeRing_19 ?_
  refine aw_rS (As := [.int 9]) (S := [.int 0, .int k]) (v := some (.int 3)) (o2 := o1) ct_X8_ringsOf_9 (mm_fit_of cbX8_ringsOf (by decide) (by decide)) wq1068 wq1069 rfl rfl (Nat.le_of_ble_eq_true rfl) (by decide) (by decide) rfl dX8_codeRing_20 ?_
  refine aw_iconst (v := 1) (by decide) dX8_codeRing_23 ?_
  refine aw_isubz (z := 2) (by decide) dX8_codeRing_24 ?_
  by_cases w1 : k < 0
  · skip
    refine aw_rS (As := [.int k, .int 0, .int 2]) (S := []) (v := some (.int 0)) (o2 := o1) (ct_within_lo w1) (mm_fit_of cbX8_within (by decide) (by decide)) wq938 wq939 rfl rfl (Nat.le_of_ble_eq_true rfl) (by decide) (by decide) rfl dX8_codeRing_25 ?_
    refine aw_if_eq (tgt := 39) (by decide) dX8_codeRing_28 (fun _ => ?_) (fun z => absurd z (by decide))
    refine aw_iconst (v := (-1)) (by decide) dX8_codeRing_39 ?_
    exact aw_iret rfl (by decide) (by decide) dX8_codeRing_40 ⟨by (subst ho1; first | rfl | decide | (rw [tc_cr, if_pos w1]; done) | (show Sum.inl (some (Value.int (-1))) = (oI (tc_cr 9 k) _).1; rw [tc_cr, if_pos w1]; rfl)), by (subst ho1; rfl)⟩
  · skip
    by_cases zw1 : k > 2
    · skip
      refine aw_rS (As := [.int k, .int 0, .int 2]) (S := []) (v := some (.int 0)) (o2 := o1) (ct_within_hi zw1) (mm_fit_of cbX8_within (by decide) (by decide)) wq938 wq939 rfl rfl (Nat.le_of_ble_eq_true rfl) (by decide) (by decide) rfl dX8_codeRing_25 ?_
      refine aw_if_eq (tgt := 39) (by decide) dX8_codeRing_28 (fun _ => ?_) (fun z => absurd z (by decide))
      refine aw_iconst (v := (-1)) (by decide) dX8_codeRing_39 ?_
      exact aw_iret rfl (by decide) (by decide) dX8_codeRing_40 ⟨by (subst ho1; first | rfl | decide | (show Sum.inl (some (Value.int (-1))) = (oI (tc_cr 9 k) _).1; rw [tc_cr, if_neg w1, show tc_n 9 = nI (2 + 1) by decide, if_neg (gt_nlt (by decide) zw1)]; rfl)), by (subst ho1; rfl)⟩
    · skip
      refine aw_rS (As := [.int k, .int 0, .int 2]) (S := []) (v := some (.int 1)) (o2 := o1) (ct_within_in w1 zw1) (mm_fit_of cbX8_within (by decide) (by decide)) wq938 wq939 rfl rfl (Nat.le_of_ble_eq_true rfl) (by decide) (by decide) rfl dX8_codeRing_25 ?_
      refine aw_if_eq (tgt := 39) (by decide) dX8_codeRing_28 (fun z => absurd z (by decide)) (fun _ => ?_)
      refine aw_iload_n (x := 9) rfl dX8_codeRing_31 ?_
      refine aw_iload_n (x := k) rfl dX8_codeRing_32 ?_
      rcases i32_t3 w1 (le_lt (k := 2) (by decide) zw1) with rfl | rfl | rfl
      · skip
        refine aw_rS (As := [.int 9, .int 0]) (S := []) (v := some (.int 0)) (o2 := o1) ct_X8_ringOf_9_0 (mm_fit_of cbX8_ringOf (by decide) (by decide)) wq1071 wq1072 rfl rfl (Nat.le_of_ble_eq_true rfl) (by decide) (by decide) rfl dX8_codeRing_33 ?_
        refine aw_goto (tgt := 40) (by decide) dX8_codeRing_36 ?_
        exact aw_iret rfl (by decide) (by decide) dX8_codeRing_40 ⟨by (subst ho1; first | rfl | decide), by (subst ho1; rfl)⟩
      · skip
        refine aw_rS (As := [.int 9, .int 1]) (S := []) (v := some (.int 1)) (o2 := o1) ct_X8_ringOf_9_1 (mm_fit_of cbX8_ringOf (by decide) (by decide)) wq1071 wq1072 rfl rfl (Nat.le_of_ble_eq_true rfl) (by decide) (by decide) rfl dX8_codeRing_33 ?_
        refine aw_goto (tgt := 40) (by decide) dX8_codeRing_36 ?_
        exact aw_iret rfl (by decide) (by decide) dX8_codeRing_40 ⟨by (subst ho1; first | rfl | decide), by (subst ho1; rfl)⟩
      · skip
        refine aw_rS (As := [.int 9, .int 2]) (S := []) (v := some (.int 0)) (o2 := o1) ct_X8_ringOf_9_2 (mm_fit_of cbX8_ringOf (by decide) (by decide)) wq1071 wq1072 rfl rfl (Nat.le_of_ble_eq_true rfl) (by decide) (by decide) rfl dX8_codeRing_33 ?_
        refine aw_goto (tgt := 40) (by decide) dX8_codeRing_36 ?_
        exact aw_iret rfl (by decide) (by decide) dX8_codeRing_40 ⟨by (subst ho1; first | rfl | decide), by (subst ho1; rfl)⟩
theorem rt_cring_10 {ad : Nat → Nat → Nat → Nat} {o : wd_S} {n m c : Nat} (V : mv o n m c) {k : Int32} : CT ad MX8_codeRing [.ref (ad 14 0 0), .int 10, .int k] o (OT (oI (tc_cr 10 k) (wd_w o 12 1 0))) := by
  obtain ⟨G, hk, hc⟩ := id V
  obtain ⟨g1, g2, g3, g4, g5, g6⟩ := id G
  refine CT.of (L := [some (.ref (ad 14 0 0)), some (.int 10), some (.int k)]) rfl rfl (by decide) (Nat.le_of_ble_eq_true rfl) rfl ?_
  refine aw_aload_n (x := ad 14 0 0) rfl dX8_codeRing_0 ?_
  refine aw_aload_n (x := ad 14 0 0) rfl dX8_codeRing_1 ?_
  refine aw_iload_n (x := 10) rfl dX8_codeRing_2 ?_
  refine aw_rS (As := [.int 10]) (S := [.ref (ad 14 0 0), .ref (ad 14 0 0)]) (v := some (.int 1)) (o2 := o) (RTv ct_X8_isCode (show mf_code 10 = 1 by decide)) (mm_fit_of cbX8_isCode (by decide) (by decide)) wq1105 wq1106 rfl rfl (Nat.le_of_ble_eq_true rfl) (by decide) (by decide) rfl dX8_codeRing_3 ?_
  refine aw_rV (As := [.int 1]) (S := [.ref (ad 14 0 0)]) (v := some (.int 0)) (o2 := o) (ct_need_1) (mm_fit_of cbX8_need (by decide) (by decide)) wq1053 cvX8_need wv14 rfl rfl rfl (Nat.le_of_ble_eq_true rfl) (by decide) (by decide) rfl dX8_codeRing_6 ?_
  refine aw_rV (As := [.int 0]) (S := []) (v := some (.int 0)) (o2 := (wd_w o 12 1 0)) (ct_refused_0) (mm_fit_of cbX8_refused (by decide) (by decide)) wq922 cvX8_refused wv14 rfl rfl rfl (Nat.le_of_ble_eq_true rfl) (by decide) (by decide) rfl dX8_codeRing_9 ?_
  obtain ⟨o1, ho1⟩ : ∃ z, z = (wd_w o 12 1 0) := ⟨_, rfl⟩
  rw [← ho1]
  have Go1 : cg (o1.1 8) n m := by rw [ho1]; rw [wd_w_row, row_ne _ _ (by decide)]; exact G
  refine aw_if_eq (tgt := 17) (by decide) dX8_codeRing_12 (fun _ => ?_) (fun z => absurd z (by decide))
  refine aw_iload_n (x := k) rfl dX8_codeRing_17 ?_
  refine aw_iconst (v := 0) (by decide) dX8_codeRing_18 ?_
  refine aw_iload_n (x := 10) rfl dX8_codeRing_19 ?_
  refine aw_rS (As := [.int 10]) (S := [.int 0, .int k]) (v := some (.int 3)) (o2 := o1) ct_X8_ringsOf_10 (mm_fit_of cbX8_ringsOf (by decide) (by decide)) wq1068 wq1069 rfl rfl (Nat.le_of_ble_eq_true rfl) (by decide) (by decide) rfl dX8_codeRing_20 ?_
  refine aw_iconst (v := 1) (by decide) dX8_codeRing_23 ?_
  refine aw_isubz (z := 2) (by decide) dX8_codeRing_24 ?_
  by_cases w1 : k < 0
  · skip
    refine aw_rS (As := [.int k, .int 0, .int 2]) (S := []) (v := some (.int 0)) (o2 := o1) (ct_within_lo w1) (mm_fit_of cbX8_within (by decide) (by decide)) wq938 wq939 rfl rfl (Nat.le_of_ble_eq_true rfl) (by decide) (by decide) rfl dX8_codeRing_25 ?_
    refine aw_if_eq (tgt := 39) (by decide) dX8_codeRing_28 (fun _ => ?_) (fun z => absurd z (by decide))
    refine aw_iconst (v := (-1)) (by decide) dX8_codeRing_39 ?_
    exact aw_iret rfl (by decide) (by decide) dX8_codeRing_40 ⟨by (subst ho1; first | rfl | decide | (rw [tc_cr, if_pos w1]; done) | (show Sum.inl (some (Value.int (-1))) = (oI (tc_cr 10 k) _).1; rw [tc_cr, if_pos w1]; rfl)), by (subst ho1; rfl)⟩
  · skip
    by_cases zw1 : k > 2
    · skip
      refine aw_rS (As := [.int k, .int 0, .int 2]) (S := []) (v := some (.int 0)) (o2 := o1) (ct_within_hi zw1) (mm_fit_of cbX8_within (by decide) (by decide)) wq938 wq939 rfl rfl (Nat.le_of_ble_eq_true rfl) (by decide) (by decide) rfl dX8_codeRing_25 ?_
      refine aw_if_eq (tgt := 39) (by decide) dX8_codeRing_28 (fun _ => ?_) (fun z => absurd z (by decide))
      refine aw_iconst (v := (-1)) (by decide) dX8_codeRing_39 ?_
      exact aw_iret rfl (by decide) (by decide) dX8_codeRing_40 ⟨by (subst ho1; first | rfl | decide | (show Sum.inl (some (Value.int (-1))) = (oI (tc_cr 10 k) _).1; rw [tc_cr, if_neg w1, show tc_n 10 = nI (2 + 1) by decide, if_neg (gt_nlt (by decide) zw1)]; rfl)), by (subst ho1; rfl)⟩
    · skip
      refine aw_rS (As := [.int k, .int 0, .int 2]) (S := []) (v := some (.int 1)) (o2 := o1) (ct_within_in w1 zw1) (mm_fit_of cbX8_within (by decide) (by decide)) wq938 wq939 rfl rfl (Nat.le_of_ble_eq_true rfl) (by decide) (by decide) rfl dX8_codeRing_25 ?_
      refine aw_if_eq (tgt := 39) (by decide) dX8_codeRing_28 (fun z => absurd z (by decide)) (fun _ => ?_)
      refine aw_iload_n (x := 10) rfl dX8_codeRing_31 ?_
      refine aw_iload_n (x := k) rfl dX8_codeRing_32 ?_
      rcases i32_t3 w1 (le_lt (k := 2) (by decide) zw1) with rfl | rfl | rfl
      · skip
        refine aw_rS (As := [.int 10, .int 0]) (S := []) (v := some (.int 0)) (o2 := o1) ct_X8_ringOf_10_0 (mm_fit_of cbX8_ringOf (by decide) (by decide)) wq1071 wq1072 rfl rfl (Nat.le_of_ble_eq_true rfl) (by decide) (by decide) rfl dX8_codeRing_33 ?_
        refine aw_goto (tgt := 40) (by decide) dX8_codeRing_36 ?_
        exact aw_iret rfl (by decide) (by decide) dX8_codeRing_40 ⟨by (subst ho1; first | rfl | decide), by (subst ho1; rfl)⟩
      · skip
        refine aw_rS (As := [.int 10, .int 1]) (S := []) (v := some (.int 1)) (o2 := o1) ct_X8_ringOf_10_1 (mm_fit_of cbX8_ringOf (by decide) (by decide)) wq1071 wq1072 rfl rfl (Nat.le_of_ble_eq_true rfl) (by decide) (by decide) rfl dX8_codeRing_33 ?_
        refine aw_goto (tgt := 40) (by decide) dX8_codeRing_36 ?_
        exact aw_iret rfl (by decide) (by decide) dX8_codeRing_40 ⟨by (subst ho1; first | rfl | decide), by (subst ho1; rfl)⟩
      · skip
        refine aw_rS (As := [.int 10, .int 2]) (S := []) (v := some (.int 1)) (o2 := o1) ct_X8_ringOf_10_2 (mm_fit_of cbX8_ringOf (by decide) (by decide)) wq1071 wq1072 rfl rfl (Nat.le_of_ble_eq_true rfl) (by decide) (by decide) rfl dX8_codeRing_33 ?_
        refine aw_goto (tgt := 40) (by decide) dX8_codeRing_36 ?_
        exact aw_iret rfl (by decide) (by decide) dX8_codeRing_40 ⟨by (subst ho1; first | rfl | decide), by (subst ho1; rfl)⟩
theorem rt_cring_11 {ad : Nat → Nat → Nat → Nat} {o : wd_S} {n m c : Nat} (V : mv o n m c) {k : Int32} : CT ad MX8_codeRing [.ref (ad 14 0 0), .int 11, .int k] o (OT (oI (tc_cr 11 k) (wd_w o 12 1 0))) := by
  obtain ⟨G, hk, hc⟩ := id V
  obtain ⟨g1, g2, g3, g4, g5, g6⟩ := id G
  refine CT.of (L := [some (.ref (ad 14 0 0)), some (.int 11), some (.int k)]) rfl rfl (by decide) (Nat.le_of_ble_eq_true rfl) rfl ?_
  refine aw_aload_n (x := ad 14 0 0) rfl dX8_codeRing_0 ?_
  refine aw_aload_n (x := ad 14 0 0) rfl dX8_codeRing_1 ?_
  refine aw_iload_n (x := 11) rfl dX8_codeRing_2 ?_
  refine aw_rS (As := [.int 11]) (S := [.ref (ad 14 0 0), .ref (ad 14 0 0)]) (v := some (.int 1)) (o2 := o) (RTv ct_X8_isCode (show mf_code 11 = 1 by decide)) (mm_fit_of cbX8_isCode (by decide) (by decide)) wq1105 wq1106 rfl rfl (Nat.le_of_ble_eq_true rfl) (by decide) (by decide) rfl dX8_codeRing_3 ?_
  refine aw_rV (As := [.int 1]) (S := [.ref (ad 14 0 0)]) (v := some (.int 0)) (o2 := o) (ct_need_1) (mm_fit_of cbX8_need (by decide) (by decide)) wq1053 cvX8_need wv14 rfl rfl rfl (Nat.le_of_ble_eq_true rfl) (by decide) (by decide) rfl dX8_codeRing_6 ?_
  refine aw_rV (As := [.int 0]) (S := []) (v := some (.int 0)) (o2 := (wd_w o 12 1 0)) (ct_refused_0) (mm_fit_of cbX8_refused (by decide) (by decide)) wq922 cvX8_refused wv14 rfl rfl rfl (Nat.le_of_ble_eq_true rfl) (by decide) (by decide) rfl dX8_codeRing_9 ?_
  obtain ⟨o1, ho1⟩ : ∃ z, z = (wd_w o 12 1 0) := ⟨_, rfl⟩
  rw [← ho1]
  have Go1 : cg (o1.1 8) n m := by rw [ho1]; rw [wd_w_row, row_ne _ _ (by decide)]; exact G
  refine aw_if_eq (tgt := 17) (by decide) dX8_codeRing_12 (fun _ => ?_) (fun z => absurd z (by decide))
  refine aw_iload_n (x := k) rfl dX8_codeRing_17 ?_
  refine aw_iconst (v := 0) (by decide) dX8_codeRing_18 ?_
  refine aw_iload_n (x := 11) rfl dX8_codeRing_19 ?_
  refine aw_rS (As := [.int 11]) (S := [.int 0, .int k]) (v := some (.int 3)) (o2 := o1) ct_X8_ringsOf_11 (mm_fit_of cbX8_ringsOf (by decide) (by decide)) wq1068 wq1069 rfl rfl (Nat.le_of_ble_eq_true rfl) (by decide) (by decide) rfl dX8_codeRing_20 ?_
  refine aw_iconst (v := 1) (by decide) dX8_codeRing_23 ?_
  refine aw_isubz (z := 2) (by decide) dX8_codeRing_24 ?_
  by_cases w1 : k < 0
  · skip
    refine aw_rS (As := [.int k, .int 0, .int 2]) (S := []) (v := some (.int 0)) (o2 := o1) (ct_within_lo w1) (mm_fit_of cbX8_within (by decide) (by decide)) wq938 wq939 rfl rfl (Nat.le_of_ble_eq_true rfl) (by decide) (by decide) rfl dX8_codeRing_25 ?_
    refine aw_if_eq (tgt := 39) (by decide) dX8_codeRing_28 (fun _ => ?_) (fun z => absurd z (by decide))
    refine aw_iconst (v := (-1)) (by decide) dX8_codeRing_39 ?_
    exact aw_iret rfl (by decide) (by decide) dX8_codeRing_40 ⟨by (subst ho1; first | rfl | decide | (rw [tc_cr, if_pos w1]; done) | (show Sum.inl (some (Value.int (-1))) = (oI (tc_cr 11 k) _).1; rw [tc_cr, if_pos w1]; rfl)), by (subst ho1; rfl)⟩
  · skip
    by_cases zw1 : k > 2
    · skip
      refine aw_rS (As := [.int k, .int 0, .int 2]) (S := []) (v := some (.int 0)) (o2 := o1) (ct_within_hi zw1) (mm_fit_of cbX8_within (by decide) (by decide)) wq938 wq939 rfl rfl (Nat.le_of_ble_eq_true rfl) (by decide) (by decide) rfl dX8_codeRing_25 ?_
      refine aw_if_eq (tgt := 39) (by decide) dX8_codeRing_28 (fun _ => ?_) (fun z => absurd z (by decide))
      refine aw_iconst (v := (-1)) (by decide) dX8_codeRing_39 ?_
      exact aw_iret rfl (by decide) (by decide) dX8_codeRing_40 ⟨by (subst ho1; first | rfl | decide | (show Sum.inl (some (Value.int (-1))) = (oI (tc_cr 11 k) _).1; rw [tc_cr, if_neg w1, show tc_n 11 = nI (2 + 1) by decide, if_neg (gt_nlt (by decide) zw1)]; rfl)), by (subst ho1; rfl)⟩
    · skip
      refine aw_rS (As := [.int k, .int 0, .int 2]) (S := []) (v := some (.int 1)) (o2 := o1) (ct_within_in w1 zw1) (mm_fit_of cbX8_within (by decide) (by decide)) wq938 wq939 rfl rfl (Nat.le_of_ble_eq_true rfl) (by decide) (by decide) rfl dX8_codeRing_25 ?_
      refine aw_if_eq (tgt := 39) (by decide) dX8_codeRing_28 (fun z => absurd z (by decide)) (fun _ => ?_)
      refine aw_iload_n (x := 11) rfl dX8_codeRing_31 ?_
      refine aw_iload_n (x := k) rfl dX8_codeRing_32 ?_
      rcases i32_t3 w1 (le_lt (k := 2) (by decide) zw1) with rfl | rfl | rfl
      · skip
        refine aw_rS (As := [.int 11, .int 0]) (S := []) (v := some (.int 1)) (o2 := o1) ct_X8_ringOf_11_0 (mm_fit_of cbX8_ringOf (by decide) (by decide)) wq1071 wq1072 rfl rfl (Nat.le_of_ble_eq_true rfl) (by decide) (by decide) rfl dX8_codeRing_33 ?_
        refine aw_goto (tgt := 40) (by decide) dX8_codeRing_36 ?_
        exact aw_iret rfl (by decide) (by decide) dX8_codeRing_40 ⟨by (subst ho1; first | rfl | decide), by (subst ho1; rfl)⟩
      · skip
        refine aw_rS (As := [.int 11, .int 1]) (S := []) (v := some (.int 0)) (o2 := o1) ct_X8_ringOf_11_1 (mm_fit_of cbX8_ringOf (by decide) (by decide)) wq1071 wq1072 rfl rfl (Nat.le_of_ble_eq_true rfl) (by decide) (by decide) rfl dX8_codeRing_33 ?_
        refine aw_goto (tgt := 40) (by decide) dX8_codeRing_36 ?_
        exact aw_iret rfl (by decide) (by decide) dX8_codeRing_40 ⟨by (subst ho1; first | rfl | decide), by (subst ho1; rfl)⟩
      · skip
        refine aw_rS (As := [.int 11, .int 2]) (S := []) (v := some (.int 0)) (o2 := o1) ct_X8_ringOf_11_2 (mm_fit_of cbX8_ringOf (by decide) (by decide)) wq1071 wq1072 rfl rfl (Nat.le_of_ble_eq_true rfl) (by decide) (by decide) rfl dX8_codeRing_33 ?_
        refine aw_goto (tgt := 40) (by decide) dX8_codeRing_36 ?_
        exact aw_iret rfl (by decide) (by decide) dX8_codeRing_40 ⟨by (subst ho1; first | rfl | decide), by (subst ho1; rfl)⟩
theorem rt_cring_12 {ad : Nat → Nat → Nat → Nat} {o : wd_S} {n m c : Nat} (V : mv o n m c) {k : Int32} : CT ad MX8_codeRing [.ref (ad 14 0 0), .int 12, .int k] o (OT (oI (tc_cr 12 k) (wd_w o 12 1 0))) := by
  obtain ⟨G, hk, hc⟩ := id V
  obtain ⟨g1, g2, g3, g4, g5, g6⟩ := id G
  refine CT.of (L := [some (.ref (ad 14 0 0)), some (.int 12), some (.int k)]) rfl rfl (by decide) (Nat.le_of_ble_eq_true rfl) rfl ?_
  refine aw_aload_n (x := ad 14 0 0) rfl dX8_codeRing_0 ?_
  refine aw_aload_n (x := ad 14 0 0) rfl dX8_codeRing_1 ?_
  refine aw_iload_n (x := 12) rfl dX8_codeRing_2 ?_
  refine aw_rS (As := [.int 12]) (S := [.ref (ad 14 0 0), .ref (ad 14 0 0)]) (v := some (.int 1)) (o2 := o) (RTv ct_X8_isCode (show mf_code 12 = 1 by decide)) (mm_fit_of cbX8_isCode (by decide) (by decide)) wq1105 wq1106 rfl rfl (Nat.le_of_ble_eq_true rfl) (by decide) (by decide) rfl dX8_codeRing_3 ?_
  refine aw_rV (As := [.int 1]) (S := [.ref (ad 14 0 0)]) (v := some (.int 0)) (o2 := o) (ct_need_1) (mm_fit_of cbX8_need (by decide) (by decide)) wq1053 cvX8_need wv14 rfl rfl rfl (Nat.le_of_ble_eq_true rfl) (by decide) (by decide) rfl dX8_codeRing_6 ?_
  refine aw_rV (As := [.int 0]) (S := []) (v := some (.int 0)) (o2 := (wd_w o 12 1 0)) (ct_refused_0) (mm_fit_of cbX8_refused (by decide) (by decide)) wq922 cvX8_refused wv14 rfl rfl rfl (Nat.le_of_ble_eq_true rfl) (by decide) (by decide) rfl dX8_codeRing_9 ?_
  obtain ⟨o1, ho1⟩ : ∃ z, z = (wd_w o 12 1 0) := ⟨_, rfl⟩
  rw [← ho1]
  have Go1 : cg (o1.1 8) n m := by rw [ho1]; rw [wd_w_row, row_ne _ _ (by decide)]; exact G
  refine aw_if_eq (tgt := 17) (by decide) dX8_codeRing_12 (fun _ => ?_) (fun z => absurd z (by decide))
  refine aw_iload_n (x := k) rfl dX8_codeRing_17 ?_
  refine aw_iconst (v := 0) (by decide) dX8_codeRing_18 ?_
  refine aw_iload_n (x := 12) rfl dX8_codeRing_19 ?_
  refine aw_rS (As := [.int 12]) (S := [.int 0, .int k]) (v := some (.int 3)) (o2 := o1) ct_X8_ringsOf_12 (mm_fit_of cbX8_ringsOf (by decide) (by decide)) wq1068 wq1069 rfl rfl (Nat.le_of_ble_eq_true rfl) (by decide) (by decide) rfl dX8_codeRing_20 ?_
  refine aw_iconst (v := 1) (by decide) dX8_codeRing_23 ?_
  refine aw_isubz (z := 2) (by decide) dX8_codeRing_24 ?_
  by_cases w1 : k < 0
  · skip
    refine aw_rS (As := [.int k, .int 0, .int 2]) (S := []) (v := some (.int 0)) (o2 := o1) (ct_within_lo w1) (mm_fit_of cbX8_within (by decide) (by decide)) wq938 wq939 rfl rfl (Nat.le_of_ble_eq_true rfl) (by decide) (by decide) rfl dX8_codeRing_25 ?_
    refine aw_if_eq (tgt := 39) (by decide) dX8_codeRing_28 (fun _ => ?_) (fun z => absurd z (by decide))
    refine aw_iconst (v := (-1)) (by decide) dX8_codeRing_39 ?_
    exact aw_iret rfl (by decide) (by decide) dX8_codeRing_40 ⟨by (subst ho1; first | rfl | decide | (rw [tc_cr, if_pos w1]; done) | (show Sum.inl (some (Value.int (-1))) = (oI (tc_cr 12 k) _).1; rw [tc_cr, if_pos w1]; rfl)), by (subst ho1; rfl)⟩
  · skip
    by_cases zw1 : k > 2
    · skip
      refine aw_rS (As := [.int k, .int 0, .int 2]) (S := []) (v := some (.int 0)) (o2 := o1) (ct_within_hi zw1) (mm_fit_of cbX8_within (by decide) (by decide)) wq938 wq939 rfl rfl (Nat.le_of_ble_eq_true rfl) (by decide) (by decide) rfl dX8_codeRing_25 ?_
      refine aw_if_eq (tgt := 39) (by decide) dX8_codeRing_28 (fun _ => ?_) (fun z => absurd z (by decide))
      refine aw_iconst (v := (-1)) (by decide) dX8_codeRing_39 ?_
      exact aw_iret rfl (by decide) (by decide) dX8_codeRing_40 ⟨by (subst ho1; first | rfl | decide | (show Sum.inl (some (Value.int (-1))) = (oI (tc_cr 12 k) _).1; rw [tc_cr, if_neg w1, show tc_n 12 = nI (2 + 1) by decide, if_neg (gt_nlt (by decide) zw1)]; rfl)), by (subst ho1; rfl)⟩
    · skip
      refine aw_rS (As := [.int k, .int 0, .int 2]) (S := []) (v := some (.int 1)) (o2 := o1) (ct_within_in w1 zw1) (mm_fit_of cbX8_within (by decide) (by decide)) wq938 wq939 rfl rfl (Nat.le_of_ble_eq_true rfl) (by decide) (by decide) rfl dX8_codeRing_25 ?_
      refine aw_if_eq (tgt := 39) (by decide) dX8_codeRing_28 (fun z => absurd z (by decide)) (fun _ => ?_)
      refine aw_iload_n (x := 12) rfl dX8_codeRing_31 ?_
      refine aw_iload_n (x := k) rfl dX8_codeRing_32 ?_
      rcases i32_t3 w1 (le_lt (k := 2) (by decide) zw1) with rfl | rfl | rfl
      · skip
        refine aw_rS (As := [.int 12, .int 0]) (S := []) (v := some (.int 1)) (o2 := o1) ct_X8_ringOf_12_0 (mm_fit_of cbX8_ringOf (by decide) (by decide)) wq1071 wq1072 rfl rfl (Nat.le_of_ble_eq_true rfl) (by decide) (by decide) rfl dX8_codeRing_33 ?_
        refine aw_goto (tgt := 40) (by decide) dX8_codeRing_36 ?_
        exact aw_iret rfl (by decide) (by decide) dX8_codeRing_40 ⟨by (subst ho1; first | rfl | decide), by (subst ho1; rfl)⟩
      · skip
        refine aw_rS (As := [.int 12, .int 1]) (S := []) (v := some (.int 0)) (o2 := o1) ct_X8_ringOf_12_1 (mm_fit_of cbX8_ringOf (by decide) (by decide)) wq1071 wq1072 rfl rfl (Nat.le_of_ble_eq_true rfl) (by decide) (by decide) rfl dX8_codeRing_33 ?_
        refine aw_goto (tgt := 40) (by decide) dX8_codeRing_36 ?_
        exact aw_iret rfl (by decide) (by decide) dX8_codeRing_40 ⟨by (subst ho1; first | rfl | decide), by (subst ho1; rfl)⟩
      · skip
        refine aw_rS (As := [.int 12, .int 2]) (S := []) (v := some (.int 1)) (o2 := o1) ct_X8_ringOf_12_2 (mm_fit_of cbX8_ringOf (by decide) (by decide)) wq1071 wq1072 rfl rfl (Nat.le_of_ble_eq_true rfl) (by decide) (by decide) rfl dX8_codeRing_33 ?_
        refine aw_goto (tgt := 40) (by decide) dX8_codeRing_36 ?_
        exact aw_iret rfl (by decide) (by decide) dX8_codeRing_40 ⟨by (subst ho1; first | rfl | decide), by (subst ho1; rfl)⟩
theorem rt_cring_13 {ad : Nat → Nat → Nat → Nat} {o : wd_S} {n m c : Nat} (V : mv o n m c) {k : Int32} : CT ad MX8_codeRing [.ref (ad 14 0 0), .int 13, .int k] o (OT (oI (tc_cr 13 k) (wd_w o 12 1 0))) := by
  obtain ⟨G, hk, hc⟩ := id V
  obtain ⟨g1, g2, g3, g4, g5, g6⟩ := id G
  refine CT.of (L := [some (.ref (ad 14 0 0)), some (.int 13), some (.int k)]) rfl rfl (by decide) (Nat.le_of_ble_eq_true rfl) rfl ?_
  refine aw_aload_n (x := ad 14 0 0) rfl dX8_codeRing_0 ?_
  refine aw_aload_n (x := ad 14 0 0) rfl dX8_codeRing_1 ?_
  refine aw_iload_n (x := 13) rfl dX8_codeRing_2 ?_
  refine aw_rS (As := [.int 13]) (S := [.ref (ad 14 0 0), .ref (ad 14 0 0)]) (v := some (.int 1)) (o2 := o) (RTv ct_X8_isCode (show mf_code 13 = 1 by decide)) (mm_fit_of cbX8_isCode (by decide) (by decide)) wq1105 wq1106 rfl rfl (Nat.le_of_ble_eq_true rfl) (by decide) (by decide) rfl dX8_codeRing_3 ?_
  refine aw_rV (As := [.int 1]) (S := [.ref (ad 14 0 0)]) (v := some (.int 0)) (o2 := o) (ct_need_1) (mm_fit_of cbX8_need (by decide) (by decide)) wq1053 cvX8_need wv14 rfl rfl rfl (Nat.le_of_ble_eq_true rfl) (by decide) (by decide) rfl dX8_codeRing_6 ?_
  refine aw_rV (As := [.int 0]) (S := []) (v := some (.int 0)) (o2 := (wd_w o 12 1 0)) (ct_refused_0) (mm_fit_of cbX8_refused (by decide) (by decide)) wq922 cvX8_refused wv14 rfl rfl rfl (Nat.le_of_ble_eq_true rfl) (by decide) (by decide) rfl dX8_codeRing_9 ?_
  obtain ⟨o1, ho1⟩ : ∃ z, z = (wd_w o 12 1 0) := ⟨_, rfl⟩
  rw [← ho1]
  have Go1 : cg (o1.1 8) n m := by rw [ho1]; rw [wd_w_row, row_ne _ _ (by decide)]; exact G
  refine aw_if_eq (tgt := 17) (by decide) dX8_codeRing_12 (fun _ => ?_) (fun z => absurd z (by decide))
  refine aw_iload_n (x := k) rfl dX8_codeRing_17 ?_
  refine aw_iconst (v := 0) (by decide) dX8_codeRing_18 ?_
  refine aw_iload_n (x := 13) rfl dX8_codeRing_19 ?_
  refine aw_rS (As := [.int 13]) (S := [.int 0, .int k]) (v := some (.int 3)) (o2 := o1) ct_X8_ringsOf_13 (mm_fit_of cbX8_ringsOf (by decide) (by decide)) wq1068 wq1069 rfl rfl (Nat.le_of_ble_eq_true rfl) (by decide) (by decide) rfl dX8_codeRing_20 ?_
  refine aw_iconst (v := 1) (by decide) dX8_codeRing_23 ?_
  refine aw_isubz (z := 2) (by decide) dX8_codeRing_24 ?_
  by_cases w1 : k < 0
  · skip
    refine aw_rS (As := [.int k, .int 0, .int 2]) (S := []) (v := some (.int 0)) (o2 := o1) (ct_within_lo w1) (mm_fit_of cbX8_within (by decide) (by decide)) wq938 wq939 rfl rfl (Nat.le_of_ble_eq_true rfl) (by decide) (by decide) rfl dX8_codeRing_25 ?_
    refine aw_if_eq (tgt := 39) (by decide) dX8_codeRing_28 (fun _ => ?_) (fun z => absurd z (by decide))
    refine aw_iconst (v := (-1)) (by decide) dX8_codeRing_39 ?_
    exact aw_iret rfl (by decide) (by decide) dX8_codeRing_40 ⟨by (subst ho1; first | rfl | decide | (rw [tc_cr, if_pos w1]; done) | (show Sum.inl (some (Value.int (-1))) = (oI (tc_cr 13 k) _).1; rw [tc_cr, if_pos w1]; rfl)), by (subst ho1; rfl)⟩
  · skip
    by_cases zw1 : k > 2
    · skip
      refine aw_rS (As := [.int k, .int 0, .int 2]) (S := []) (v := some (.int 0)) (o2 := o1) (ct_within_hi zw1) (mm_fit_of cbX8_within (by decide) (by decide)) wq938 wq939 rfl rfl (Nat.le_of_ble_eq_true rfl) (by decide) (by decide) rfl dX8_codeRing_25 ?_
      refine aw_if_eq (tgt := 39) (by decide) dX8_codeRing_28 (fun _ => ?_) (fun z => absurd z (by decide))
      refine aw_iconst (v := (-1)) (by decide) dX8_codeRing_39 ?_
      exact aw_iret rfl (by decide) (by decide) dX8_codeRing_40 ⟨by (subst ho1; first | rfl | decide | (show Sum.inl (some (Value.int (-1))) = (oI (tc_cr 13 k) _).1; rw [tc_cr, if_neg w1, show tc_n 13 = nI (2 + 1) by decide, if_neg (gt_nlt (by decide) zw1)]; rfl)), by (subst ho1; rfl)⟩
    · skip
      refine aw_rS (As := [.int k, .int 0, .int 2]) (S := []) (v := some (.int 1)) (o2 := o1) (ct_within_in w1 zw1) (mm_fit_of cbX8_within (by decide) (by decide)) wq938 wq939 rfl rfl (Nat.le_of_ble_eq_true rfl) (by decide) (by decide) rfl dX8_codeRing_25 ?_
      refine aw_if_eq (tgt := 39) (by decide) dX8_codeRing_28 (fun z => absurd z (by decide)) (fun _ => ?_)
      refine aw_iload_n (x := 13) rfl dX8_codeRing_31 ?_
      refine aw_iload_n (x := k) rfl dX8_codeRing_32 ?_
      rcases i32_t3 w1 (le_lt (k := 2) (by decide) zw1) with rfl | rfl | rfl
      · skip
        refine aw_rS (As := [.int 13, .int 0]) (S := []) (v := some (.int 1)) (o2 := o1) ct_X8_ringOf_13_0 (mm_fit_of cbX8_ringOf (by decide) (by decide)) wq1071 wq1072 rfl rfl (Nat.le_of_ble_eq_true rfl) (by decide) (by decide) rfl dX8_codeRing_33 ?_
        refine aw_goto (tgt := 40) (by decide) dX8_codeRing_36 ?_
        exact aw_iret rfl (by decide) (by decide) dX8_codeRing_40 ⟨by (subst ho1; first | rfl | decide), by (subst ho1; rfl)⟩
      · skip
        refine aw_rS (As := [.int 13, .int 1]) (S := []) (v := some (.int 1)) (o2 := o1) ct_X8_ringOf_13_1 (mm_fit_of cbX8_ringOf (by decide) (by decide)) wq1071 wq1072 rfl rfl (Nat.le_of_ble_eq_true rfl) (by decide) (by decide) rfl dX8_codeRing_33 ?_
        refine aw_goto (tgt := 40) (by decide) dX8_codeRing_36 ?_
        exact aw_iret rfl (by decide) (by decide) dX8_codeRing_40 ⟨by (subst ho1; first | rfl | decide), by (subst ho1; rfl)⟩
      · skip
        refine aw_rS (As := [.int 13, .int 2]) (S := []) (v := some (.int 0)) (o2 := o1) ct_X8_ringOf_13_2 (mm_fit_of cbX8_ringOf (by decide) (by decide)) wq1071 wq1072 rfl rfl (Nat.le_of_ble_eq_true rfl) (by decide) (by decide) rfl dX8_codeRing_33 ?_
        refine aw_goto (tgt := 40) (by decide) dX8_codeRing_36 ?_
        exact aw_iret rfl (by decide) (by decide) dX8_codeRing_40 ⟨by (subst ho1; first | rfl | decide), by (subst ho1; rfl)⟩
theorem rt_cring_14 {ad : Nat → Nat → Nat → Nat} {o : wd_S} {n m c : Nat} (V : mv o n m c) {k : Int32} : CT ad MX8_codeRing [.ref (ad 14 0 0), .int 14, .int k] o (OT (oI (tc_cr 14 k) (wd_w o 12 1 0))) := by
  obtain ⟨G, hk, hc⟩ := id V
  obtain ⟨g1, g2, g3, g4, g5, g6⟩ := id G
  refine CT.of (L := [some (.ref (ad 14 0 0)), some (.int 14), some (.int k)]) rfl rfl (by decide) (Nat.le_of_ble_eq_true rfl) rfl ?_
  refine aw_aload_n (x := ad 14 0 0) rfl dX8_codeRing_0 ?_
  refine aw_aload_n (x := ad 14 0 0) rfl dX8_codeRing_1 ?_
  refine aw_iload_n (x := 14) rfl dX8_codeRing_2 ?_
  refine aw_rS (As := [.int 14]) (S := [.ref (ad 14 0 0), .ref (ad 14 0 0)]) (v := some (.int 1)) (o2 := o) (RTv ct_X8_isCode (show mf_code 14 = 1 by decide)) (mm_fit_of cbX8_isCode (by decide) (by decide)) wq1105 wq1106 rfl rfl (Nat.le_of_ble_eq_true rfl) (by decide) (by decide) rfl dX8_codeRing_3 ?_
  refine aw_rV (As := [.int 1]) (S := [.ref (ad 14 0 0)]) (v := some (.int 0)) (o2 := o) (ct_need_1) (mm_fit_of cbX8_need (by decide) (by decide)) wq1053 cvX8_need wv14 rfl rfl rfl (Nat.le_of_ble_eq_true rfl) (by decide) (by decide) rfl dX8_codeRing_6 ?_
  refine aw_rV (As := [.int 0]) (S := []) (v := some (.int 0)) (o2 := (wd_w o 12 1 0)) (ct_refused_0) (mm_fit_of cbX8_refused (by decide) (by decide)) wq922 cvX8_refused wv14 rfl rfl rfl (Nat.le_of_ble_eq_true rfl) (by decide) (by decide) rfl dX8_codeRing_9 ?_
  obtain ⟨o1, ho1⟩ : ∃ z, z = (wd_w o 12 1 0) := ⟨_, rfl⟩
  rw [← ho1]
  have Go1 : cg (o1.1 8) n m := by rw [ho1]; rw [wd_w_row, row_ne _ _ (by decide)]; exact G
  refine aw_if_eq (tgt := 17) (by decide) dX8_codeRing_12 (fun _ => ?_) (fun z => absurd z (by decide))
  refine aw_iload_n (x := k) rfl dX8_codeRing_17 ?_
  refine aw_iconst (v := 0) (by decide) dX8_codeRing_18 ?_
  refine aw_iload_n (x := 14) rfl dX8_codeRing_19 ?_
  refine aw_rS (As := [.int 14]) (S := [.int 0, .int k]) (v := some (.int 3)) (o2 := o1) ct_X8_ringsOf_14 (mm_fit_of cbX8_ringsOf (by decide) (by decide)) wq1068 wq1069 rfl rfl (Nat.le_of_ble_eq_true rfl) (by decide) (by decide) rfl dX8_codeRing_20 ?_
  refine aw_iconst (v := 1) (by decide) dX8_codeRing_23 ?_
  refine aw_isubz (z := 2) (by decide) dX8_codeRing_24 ?_
  by_cases w1 : k < 0
  · skip
    refine aw_rS (As := [.int k, .int 0, .int 2]) (S := []) (v := some (.int 0)) (o2 := o1) (ct_within_lo w1) (mm_fit_of cbX8_within (by decide) (by decide)) wq938 wq939 rfl rfl (Nat.le_of_ble_eq_true rfl) (by decide) (by decide) rfl dX8_codeRing_25 ?_
    refine aw_if_eq (tgt := 39) (by decide) dX8_codeRing_28 (fun _ => ?_) (fun z => absurd z (by decide))
    refine aw_iconst (v := (-1)) (by decide) dX8_codeRing_39 ?_
    exact aw_iret rfl (by decide) (by decide) dX8_codeRing_40 ⟨by (subst ho1; first | rfl | decide | (rw [tc_cr, if_pos w1]; done) | (show Sum.inl (some (Value.int (-1))) = (oI (tc_cr 14 k) _).1; rw [tc_cr, if_pos w1]; rfl)), by (subst ho1; rfl)⟩
  · skip
    by_cases zw1 : k > 2
    · skip
      refine aw_rS (As := [.int k, .int 0, .int 2]) (S := []) (v := some (.int 0)) (o2 := o1) (ct_within_hi zw1) (mm_fit_of cbX8_within (by decide) (by decide)) wq938 wq939 rfl rfl (Nat.le_of_ble_eq_true rfl) (by decide) (by decide) rfl dX8_codeRing_25 ?_
      refine aw_if_eq (tgt := 39) (by decide) dX8_codeRing_28 (fun _ => ?_) (fun z => absurd z (by decide))
      refine aw_iconst (v := (-1)) (by decide) dX8_codeRing_39 ?_
      exact aw_iret rfl (by decide) (by decide) dX8_codeRing_40 ⟨by (subst ho1; first | rfl | decide | (show Sum.inl (some (Value.int (-1))) = (oI (tc_cr 14 k) _).1; rw [tc_cr, if_neg w1, show tc_n 14 = nI (2 + 1) by decide, if_neg (gt_nlt (by decide) zw1)]; rfl)), by (subst ho1; rfl)⟩
    · skip
      refine aw_rS (As := [.int k, .int 0, .int 2]) (S := []) (v := some (.int 1)) (o2 := o1) (ct_within_in w1 zw1) (mm_fit_of cbX8_within (by decide) (by decide)) wq938 wq939 rfl rfl (Nat.le_of_ble_eq_true rfl) (by decide) (by decide) rfl dX8_codeRing_25 ?_
      refine aw_if_eq (tgt := 39) (by decide) dX8_codeRing_28 (fun z => absurd z (by decide)) (fun _ => ?_)
      refine aw_iload_n (x := 14) rfl dX8_codeRing_31 ?_
      refine aw_iload_n (x := k) rfl dX8_codeRing_32 ?_
      rcases i32_t3 w1 (le_lt (k := 2) (by decide) zw1) with rfl | rfl | rfl
      · skip
        refine aw_rS (As := [.int 14, .int 0]) (S := []) (v := some (.int 1)) (o2 := o1) ct_X8_ringOf_14_0 (mm_fit_of cbX8_ringOf (by decide) (by decide)) wq1071 wq1072 rfl rfl (Nat.le_of_ble_eq_true rfl) (by decide) (by decide) rfl dX8_codeRing_33 ?_
        refine aw_goto (tgt := 40) (by decide) dX8_codeRing_36 ?_
        exact aw_iret rfl (by decide) (by decide) dX8_codeRing_40 ⟨by (subst ho1; first | rfl | decide), by (subst ho1; rfl)⟩
      · skip
        refine aw_rS (As := [.int 14, .int 1]) (S := []) (v := some (.int 1)) (o2 := o1) ct_X8_ringOf_14_1 (mm_fit_of cbX8_ringOf (by decide) (by decide)) wq1071 wq1072 rfl rfl (Nat.le_of_ble_eq_true rfl) (by decide) (by decide) rfl dX8_codeRing_33 ?_
        refine aw_goto (tgt := 40) (by decide) dX8_codeRing_36 ?_
        exact aw_iret rfl (by decide) (by decide) dX8_codeRing_40 ⟨by (subst ho1; first | rfl | decide), by (subst ho1; rfl)⟩
      · skip
        refine aw_rS (As := [.int 14, .int 2]) (S := []) (v := some (.int 1)) (o2 := o1) ct_X8_ringOf_14_2 (mm_fit_of cbX8_ringOf (by decide) (by decide)) wq1071 wq1072 rfl rfl (Nat.le_of_ble_eq_true rfl) (by decide) (by decide) rfl dX8_codeRing_33 ?_
        refine aw_goto (tgt := 40) (by decide) dX8_codeRing_36 ?_
        exact aw_iret rfl (by decide) (by decide) dX8_codeRing_40 ⟨by (subst ho1; first | rfl | decide), by (subst ho1; rfl)⟩
theorem rt_cring_bad {ad : Nat → Nat → Nat → Nat} {o : wd_S} {n m c : Nat} (V : mv o n m c) {x k : Int32} (hb : cs_isCode x = 0) : CT ad MX8_codeRing [.ref (ad 14 0 0), .int x, .int k] o (OT (mR 1 o)) := by
  obtain ⟨G, hk, hc⟩ := id V
  obtain ⟨g1, g2, g3, g4, g5, g6⟩ := id G
  refine CT.of (L := [some (.ref (ad 14 0 0)), some (.int x), some (.int k)]) rfl rfl (by decide) (Nat.le_of_ble_eq_true rfl) rfl ?_
  refine aw_aload_n (x := ad 14 0 0) rfl dX8_codeRing_0 ?_
  refine aw_aload_n (x := ad 14 0 0) rfl dX8_codeRing_1 ?_
  refine aw_iload_n (x := x) rfl dX8_codeRing_2 ?_
  refine aw_rS (As := [.int x]) (S := [.ref (ad 14 0 0), .ref (ad 14 0 0)]) (v := some (.int 0)) (o2 := o) (RTv ct_X8_isCode (show mf_code x = 0 from hb)) (mm_fit_of cbX8_isCode (by decide) (by decide)) wq1105 wq1106 rfl rfl (Nat.le_of_ble_eq_true rfl) (by decide) (by decide) rfl dX8_codeRing_3 ?_
  refine aw_rV (As := [.int 0]) (S := [.ref (ad 14 0 0)]) (v := some (.int 1)) (o2 := o) (ct_need_0) (mm_fit_of cbX8_need (by decide) (by decide)) wq1053 cvX8_need wv14 rfl rfl rfl (Nat.le_of_ble_eq_true rfl) (by decide) (by decide) rfl dX8_codeRing_6 ?_
  refine aw_rV (As := [.int 1]) (S := []) (v := some (.int 1)) (o2 := (wd_w o 12 1 1)) (ct_refused_p (by decide)) (mm_fit_of cbX8_refused (by decide) (by decide)) wq922 cvX8_refused wv14 rfl rfl rfl (Nat.le_of_ble_eq_true rfl) (by decide) (by decide) rfl dX8_codeRing_9 ?_
  obtain ⟨o1, ho1⟩ : ∃ z, z = (wd_w o 12 1 1) := ⟨_, rfl⟩
  rw [← ho1]
  have Go1 : cg (o1.1 8) n m := by rw [ho1]; rw [wd_w_row, row_ne _ _ (by decide)]; exact G
  refine aw_if_eq (tgt := 17) (by decide) dX8_codeRing_12 (fun z => absurd z (by decide)) (fun _ => ?_)
  refine aw_iconst (v := 0) (by decide) dX8_codeRing_15 ?_
  exact aw_iret rfl (by decide) (by decide) dX8_codeRing_16 ⟨by (subst ho1; first | with_reducible rfl | (simp [mS, mS_8, oI, mR, oI, mR, wd_w_row, row_self, row_row]; done) | (simp_all [mS, mS_8, oI, mR, oI, mR, wd_w_row, row_self, row_row]; done) | (simp only [wd_w_row, row_self, row_row, i32_add0, row_ne _ _ (show (8 : Nat) ≠ 12 by decide)] at *; simp [mS, mS_8, oI, mR, oI, mR, wd_w_row, row_self, row_row]; done)), by (subst ho1; first | with_reducible rfl | (simp [mS, mS_8, oI, mR, oI, mR, wd_w_row, row_self, row_row]; done) | (simp_all [mS, mS_8, oI, mR, oI, mR, wd_w_row, row_self, row_row]; done) | (simp only [wd_w_row, row_self, row_row, i32_add0, row_ne _ _ (show (8 : Nat) ≠ 12 by decide)] at *; simp [mS, mS_8, oI, mR, oI, mR, wd_w_row, row_self, row_row]; done))⟩
theorem rt_cring {ad : Nat → Nat → Nat → Nat} {o : wd_S} {n m c : Nat} (V : mv o n m c) {x k : Int32} (h : cs_isCode x ≠ 0) : CT ad MX8_codeRing [.ref (ad 14 0 0), .int x, .int k] o (OT (oI (tc_cr x k) (wd_w o 12 1 0))) := by
  rcases tc_cases (isCode_rg h).1 (isCode_rg h).2 with rfl | rfl | rfl | rfl | rfl | rfl | rfl | rfl | rfl | rfl | rfl | rfl | rfl | rfl
  · exact rt_cring_1 V
  · exact rt_cring_2 V
  · exact rt_cring_3 V
  · exact rt_cring_4 V
  · exact rt_cring_5 V
  · exact rt_cring_6 V
  · exact rt_cring_7 V
  · exact rt_cring_8 V
  · exact rt_cring_9 V
  · exact rt_cring_10 V
  · exact rt_cring_11 V
  · exact rt_cring_12 V
  · exact rt_cring_13 V
  · exact rt_cring_14 V
theorem rt_cost {ad : Nat → Nat → Nat → Nat} {o : wd_S} {n m c : Nat} (V : mv o n m c) {x : Int32} : CT ad MX8_codeCost [.ref (ad 14 0 0), .int x] o (OT (rf_cost o n m x)) := by
  obtain ⟨G, hk, hc⟩ := id V
  obtain ⟨g1, g2, g3, g4, g5, g6⟩ := id G
  refine CT.of (L := [some (.ref (ad 14 0 0)), some (.int x)]) rfl rfl (by decide) (Nat.le_of_ble_eq_true rfl) rfl ?_
  refine aw_aload_n (x := ad 14 0 0) rfl dX8_codeCost_0 ?_
  refine aw_aload_n (x := ad 14 0 0) rfl dX8_codeCost_1 ?_
  refine aw_aload_n (x := ad 14 0 0) rfl dX8_codeCost_2 ?_
  refine aw_iload_n (x := x) rfl dX8_codeCost_3 ?_
  rcases k1 : lk n x with _ | l
  · skip
    refine aw_rV (As := [.int x]) (S := [.ref (ad 14 0 0), .ref (ad 14 0 0)]) (v := some (.int 0)) (o2 := o) (ct_X8_isLoop_none G k1) (mm_fit_of cbX8_isLoop (by decide) (by decide)) wq941 cvX8_isLoop wv14 rfl rfl rfl (Nat.le_of_ble_eq_true rfl) (by decide) (by decide) rfl dX8_codeCost_4 ?_
    refine aw_rV (As := [.int 0]) (S := [.ref (ad 14 0 0)]) (v := some (.int 1)) (o2 := o) (ct_need_0) (mm_fit_of cbX8_need (by decide) (by decide)) wq1053 cvX8_need wv14 rfl rfl rfl (Nat.le_of_ble_eq_true rfl) (by decide) (by decide) rfl dX8_codeCost_7 ?_
    refine aw_rV (As := [.int 1]) (S := []) (v := some (.int 1)) (o2 := (wd_w o 12 1 1)) (ct_refused_p (by decide)) (mm_fit_of cbX8_refused (by decide) (by decide)) wq922 cvX8_refused wv14 rfl rfl rfl (Nat.le_of_ble_eq_true rfl) (by decide) (by decide) rfl dX8_codeCost_10 ?_
    obtain ⟨o1, ho1⟩ : ∃ z, z = (wd_w o 12 1 1) := ⟨_, rfl⟩
    rw [← ho1]
    have Go1 : cg (o1.1 8) n m := by rw [ho1]; rw [wd_w_row, row_ne _ _ (by decide)]; exact G
    refine aw_if_eq (tgt := 20) (by decide) dX8_codeCost_13 (fun z => absurd z (by decide)) (fun _ => ?_)
    refine aw_iconst (v := 0) (by decide) dX8_codeCost_16 ?_
    refine aw_goto (tgt := 25) (by decide) dX8_codeCost_17 ?_
    exact aw_iret rfl (by decide) (by decide) dX8_codeCost_25 ⟨by (subst ho1; first | with_reducible rfl | (simp [rf_cost, row_ne _ _ (show (8 : Nat) ≠ 12 by decide), mS, mS_8, oI, mR, oI, mR, wd_w_row, row_self, row_row, k1]; done) | (simp_all [rf_cost, row_ne _ _ (show (8 : Nat) ≠ 12 by decide), mS, mS_8, oI, mR, oI, mR, wd_w_row, row_self, row_row, k1]; done) | (simp only [wd_w_row, row_self, row_row, i32_add0, row_ne _ _ (show (8 : Nat) ≠ 12 by decide)] at *; simp [rf_cost, row_ne _ _ (show (8 : Nat) ≠ 12 by decide), mS, mS_8, oI, mR, oI, mR, wd_w_row, row_self, row_row, k1]; done)), by (subst ho1; first | with_reducible rfl | (simp [rf_cost, row_ne _ _ (show (8 : Nat) ≠ 12 by decide), mS, mS_8, oI, mR, oI, mR, wd_w_row, row_self, row_row, k1]; done) | (simp_all [rf_cost, row_ne _ _ (show (8 : Nat) ≠ 12 by decide), mS, mS_8, oI, mR, oI, mR, wd_w_row, row_self, row_row, k1]; done) | (simp only [wd_w_row, row_self, row_row, i32_add0, row_ne _ _ (show (8 : Nat) ≠ 12 by decide)] at *; simp [rf_cost, row_ne _ _ (show (8 : Nat) ≠ 12 by decide), mS, mS_8, oI, mR, oI, mR, wd_w_row, row_self, row_row, k1]; done))⟩
  · skip
    obtain ⟨rfl, k1l⟩ := lk_some k1
    have k1b : l < 5 := by omega
    refine aw_rV (As := [.int (nI l)]) (S := [.ref (ad 14 0 0), .ref (ad 14 0 0)]) (v := some (.int 1)) (o2 := o) (ct_X8_isLoop_some G k1) (mm_fit_of cbX8_isLoop (by decide) (by decide)) wq941 cvX8_isLoop wv14 rfl rfl rfl (Nat.le_of_ble_eq_true rfl) (by decide) (by decide) rfl dX8_codeCost_4 ?_
    refine aw_rV (As := [.int 1]) (S := [.ref (ad 14 0 0)]) (v := some (.int 0)) (o2 := o) (ct_need_1) (mm_fit_of cbX8_need (by decide) (by decide)) wq1053 cvX8_need wv14 rfl rfl rfl (Nat.le_of_ble_eq_true rfl) (by decide) (by decide) rfl dX8_codeCost_7 ?_
    refine aw_rV (As := [.int 0]) (S := []) (v := some (.int 0)) (o2 := (wd_w o 12 1 0)) (ct_refused_0) (mm_fit_of cbX8_refused (by decide) (by decide)) wq922 cvX8_refused wv14 rfl rfl rfl (Nat.le_of_ble_eq_true rfl) (by decide) (by decide) rfl dX8_codeCost_10 ?_
    obtain ⟨o2, ho2⟩ : ∃ z, z = (wd_w o 12 1 0) := ⟨_, rfl⟩
    rw [← ho2]
    have Go2 : cg (o2.1 8) n m := by rw [ho2]; rw [wd_w_row, row_ne _ _ (by decide)]; exact G
    refine aw_if_eq (tgt := 20) (by decide) dX8_codeCost_13 (fun _ => ?_) (fun z => absurd z (by decide))
    refine aw_aload_n (x := ad 14 0 0) rfl dX8_codeCost_20 ?_
    refine aw_iload_n (x := (nI l)) rfl dX8_codeCost_21 ?_
    refine aw_rV (As := [.int (nI l)]) (S := []) (v := some (.int (sumF (mf_cost (o2.1 8) l) m 0))) (o2 := o2) (ct_X8_costOf Go2 (by omega)) (mm_fit_of cbX8_costOf (by decide) (by decide)) wq1116 cvX8_costOf wv14 rfl rfl rfl (Nat.le_of_ble_eq_true rfl) (by decide) (by decide) rfl dX8_codeCost_22 ?_
    exact aw_iret rfl (by decide) (by decide) dX8_codeCost_25 ⟨by (subst ho2; first | with_reducible rfl | (simp [rf_cost, row_ne _ _ (show (8 : Nat) ≠ 12 by decide), mS, mS_8, oI, mR, oI, mR, wd_w_row, row_self, row_row, k1]; done) | (simp_all [rf_cost, row_ne _ _ (show (8 : Nat) ≠ 12 by decide), mS, mS_8, oI, mR, oI, mR, wd_w_row, row_self, row_row, k1]; done) | (simp only [wd_w_row, row_self, row_row, i32_add0, row_ne _ _ (show (8 : Nat) ≠ 12 by decide)] at *; simp [rf_cost, row_ne _ _ (show (8 : Nat) ≠ 12 by decide), mS, mS_8, oI, mR, oI, mR, wd_w_row, row_self, row_row, k1]; done)), by (subst ho2; first | with_reducible rfl | (simp [rf_cost, row_ne _ _ (show (8 : Nat) ≠ 12 by decide), mS, mS_8, oI, mR, oI, mR, wd_w_row, row_self, row_row, k1]; done) | (simp_all [rf_cost, row_ne _ _ (show (8 : Nat) ≠ 12 by decide), mS, mS_8, oI, mR, oI, mR, wd_w_row, row_self, row_row, k1]; done) | (simp only [wd_w_row, row_self, row_row, i32_add0, row_ne _ _ (show (8 : Nat) ≠ 12 by decide)] at *; simp [rf_cost, row_ne _ _ (show (8 : Nat) ≠ 12 by decide), mS, mS_8, oI, mR, oI, mR, wd_w_row, row_self, row_row, k1]; done))⟩
theorem lp_X8_best {ad : Nat → Nat → Nat → Nat} {o : wd_S} {n m : Nat} (G : cg (o.1 8) n m) {l : Nat} (hl : l < 5) (hr : ∀ i, i < m → o.1 8 (101 + 8 * i + 1) = nI l → cntN (mf_ah (o.1 8) l i) m 0 < 14) : ∀ (k i : Nat) (a : Int32), i + k = m → AW ad MX8_bestCodes 22 [some (.ref (ad 14 0 0)), some (.int (nI l)), some (.int a), some (.int (nI i))] [] o 0 0 (RT (some (.int (a + sumF (mf_least (o.1 8) m l) (k) (i)))) o) := by
  obtain ⟨g1, g2, g3, g4, g5, g6⟩ := id G
  intro k
  induction k with
  | zero =>
    intro i a hk
    refine aw_iload_n (x := (nI i)) rfl dX8_bestCodes_22 ?_
    refine aw_aload_n (x := ad 14 0 0) rfl dX8_bestCodes_23 ?_
    refine aw_getr (q := (15, 0, 0)) wv14 rfl flX8_7 rfl rfl dX8_bestCodes_24 ?_
    refine aw_bipush (v := 101) (by decide) dX8_bestCodes_27 ?_
    refine aw_ild (x := 101) (q := (8, 101)) (y := nI m) (by decide) (wv15 (by decide)) rfl G.2.2.1 (Nat.le_of_ble_eq_true rfl) rfl dX8_bestCodes_29 ?_
    refine aw_icmp_ge (tgt := 74) (by decide) dX8_bestCodes_30 (fun _ => ?_) (fun z => absurd (nI_le (by omega) (by omega)) z)
    refine aw_iload_n (x := a) rfl dX8_bestCodes_74 ?_
    exact aw_iret rfl (by decide) (by decide) dX8_bestCodes_75 ⟨by first | rfl | (simp [sumF, mf_least, mem]; done) | (simp_all [sumF, mf_least, mem]; done), by first | rfl | (simp [sumF, mf_least, mem]; done) | (simp_all [sumF, mf_least, mem]; done)⟩
  | succ k ih =>
    intro i a hk
    refine aw_iload_n (x := (nI i)) rfl dX8_bestCodes_22 ?_
    refine aw_aload_n (x := ad 14 0 0) rfl dX8_bestCodes_23 ?_
    refine aw_getr (q := (15, 0, 0)) wv14 rfl flX8_7 rfl rfl dX8_bestCodes_24 ?_
    refine aw_bipush (v := 101) (by decide) dX8_bestCodes_27 ?_
    refine aw_ild (x := 101) (q := (8, 101)) (y := nI m) (by decide) (wv15 (by decide)) rfl G.2.2.1 (Nat.le_of_ble_eq_true rfl) rfl dX8_bestCodes_29 ?_
    refine aw_icmp_ge (tgt := 74) (by decide) dX8_bestCodes_30 (fun z => absurd z (nI_ge (by omega) (by omega))) (fun _ => ?_)
    refine aw_iload_n (x := a) rfl dX8_bestCodes_33 ?_
    refine aw_aload_n (x := ad 14 0 0) rfl dX8_bestCodes_34 ?_
    refine aw_iload_n (x := (nI i)) rfl dX8_bestCodes_35 ?_
    refine aw_iconst (v := 0) (by decide) dX8_bestCodes_36 ?_
    refine aw_rV (As := [.int (nI i), .int 0]) (S := [.int a]) (v := some (.int (o.1 8 (101 + 8 * i + 1)))) (o2 := o) (ct_X8_its (s := i) (w := 0) (by omega) (by decide)) (mm_fit_of cbX8_its (by decide) (by decide)) wq949 cvX8_its wv14 rfl rfl rfl (Nat.le_of_ble_eq_true rfl) (by decide) (by decide) rfl dX8_bestCodes_37 ?_
    refine aw_iload_n (x := (nI l)) rfl dX8_bestCodes_40 ?_
    refine aw_icmp_ne (tgt := 65) (by decide) dX8_bestCodes_41 (fun b1 => ?_) (fun b1 => ?_)
    · skip
      refine aw_iconst (v := 0) (by decide) dX8_bestCodes_65 ?_
      refine aw_iaddz (z := a + 0) rfl dX8_bestCodes_66 ?_
      refine aw_istore_n (L2 := [some (.ref (ad 14 0 0)), some (.int (nI l)), some (.int (a + 0)), some (.int (nI i))]) (by decide) rfl rfl dX8_bestCodes_67 ?_
      refine aw_iinc (n := 1) (x := (nI i)) (v := nI (i + 1)) (L2 := [some (.ref (ad 14 0 0)), some (.int (nI l)), some (.int (a + 0)), some (.int (nI (i + 1)))]) rfl (nI_1 i) (by decide) rfl rfl dX8_bestCodes_68 ?_
      refine aw_goto (tgt := 22) (by decide) dX8_bestCodes_71 ?_
      have e9 : (RT (some (.int (a + sumF (mf_least (o.1 8) m l) (k + 1) (i)))) o) = (RT (some (.int ((a + 0) + sumF (mf_least (o.1 8) m l) (k) (i + 1)))) o) := by first | (simp [sumF, mf_least, sumF_acc, mem, b1]; done) | (simp_all [sumF, mf_least, sumF_acc, mem, b1]; done)
      rw [e9]
      exact AW.locs (ih (i + 1) (a + 0) (by omega) ) (lsub_keep (lsub_keep (lsub_keep (lsub_keep lsub_nil))))
    · skip
      refine aw_aload_n (x := ad 14 0 0) rfl dX8_bestCodes_44 ?_
      refine aw_iload_n (x := (nI i)) rfl dX8_bestCodes_45 ?_
      refine aw_iconst (v := 4) (by decide) dX8_bestCodes_46 ?_
      refine aw_rV (As := [.int (nI i), .int 4]) (S := [.int a]) (v := some (.int (o.1 8 (101 + 8 * i + 5)))) (o2 := o) (ct_X8_its (s := i) (w := 4) (by omega) (by decide)) (mm_fit_of cbX8_its (by decide) (by decide)) wq949 cvX8_its wv14 rfl rfl rfl (Nat.le_of_ble_eq_true rfl) (by decide) (by decide) rfl dX8_bestCodes_47 ?_
      refine aw_aload_n (x := ad 14 0 0) rfl dX8_bestCodes_50 ?_
      refine aw_iload_n (x := (nI i)) rfl dX8_bestCodes_51 ?_
      refine aw_rV (As := [.int (nI i)]) (S := [.int (o.1 8 (101 + 8 * i + 5)), .int a]) (v := some (.int (nI (cntN (mf_ah (o.1 8) l i) m 0)))) (o2 := o) (ct_X8_placeOf G hl (by omega) b1) (mm_fit_of cbX8_placeOf (by decide) (by decide)) wq1124 cvX8_placeOf wv14 rfl rfl rfl (Nat.le_of_ble_eq_true rfl) (by decide) (by decide) rfl dX8_bestCodes_52 ?_
      refine aw_rS (As := [.int (nI (cntN (mf_ah (o.1 8) l i) m 0))]) (S := [.int (o.1 8 (101 + 8 * i + 5)), .int a]) (v := some (.int (mm_bl (cntN (mf_ah (o.1 8) l i) m 0)))) (o2 := o) (ct_X8_codeAt (hr i (by omega) b1)) (mm_fit_of cbX8_codeAt (by decide) (by decide)) wq1128 wq1129 rfl rfl (Nat.le_of_ble_eq_true rfl) (by decide) (by decide) rfl dX8_bestCodes_55 ?_
      refine aw_rS (As := [.int (mm_bl (cntN (mf_ah (o.1 8) l i) m 0))]) (S := [.int (o.1 8 (101 + 8 * i + 5)), .int a]) (v := some (.int (tc_len (mm_bl (cntN (mf_ah (o.1 8) l i) m 0))))) (o2 := o) (ct_X8_lengthOf (bl_code _ (hr i (by omega) b1)).1 (bl_code _ (hr i (by omega) b1)).2) (mm_fit_of cbX8_lengthOf (by decide) (by decide)) wq1065 wq1066 rfl rfl (Nat.le_of_ble_eq_true rfl) (by decide) (by decide) rfl dX8_bestCodes_58 ?_
      refine aw_imulz (z := (o.1 8 (101 + 8 * i + 5)) * (tc_len (mm_bl (cntN (mf_ah (o.1 8) l i) m 0)))) rfl dX8_bestCodes_61 ?_
      refine aw_goto (tgt := 66) (by decide) dX8_bestCodes_62 ?_
      refine aw_iaddz (z := a + ((o.1 8 (101 + 8 * i + 5)) * (tc_len (mm_bl (cntN (mf_ah (o.1 8) l i) m 0))))) rfl dX8_bestCodes_66 ?_
      refine aw_istore_n (L2 := [some (.ref (ad 14 0 0)), some (.int (nI l)), some (.int (a + ((o.1 8 (101 + 8 * i + 5)) * (tc_len (mm_bl (cntN (mf_ah (o.1 8) l i) m 0)))))), some (.int (nI i))]) (by decide) rfl rfl dX8_bestCodes_67 ?_
      refine aw_iinc (n := 1) (x := (nI i)) (v := nI (i + 1)) (L2 := [some (.ref (ad 14 0 0)), some (.int (nI l)), some (.int (a + ((o.1 8 (101 + 8 * i + 5)) * (tc_len (mm_bl (cntN (mf_ah (o.1 8) l i) m 0)))))), some (.int (nI (i + 1)))]) rfl (nI_1 i) (by decide) rfl rfl dX8_bestCodes_68 ?_
      refine aw_goto (tgt := 22) (by decide) dX8_bestCodes_71 ?_
      have e9 : (RT (some (.int (a + sumF (mf_least (o.1 8) m l) (k + 1) (i)))) o) = (RT (some (.int ((a + ((o.1 8 (101 + 8 * i + 5)) * (tc_len (mm_bl (cntN (mf_ah (o.1 8) l i) m 0))))) + sumF (mf_least (o.1 8) m l) (k) (i + 1)))) o) := by first | (simp [sumF, mf_least, sumF_acc, mem, b1]; done) | (simp_all [sumF, mf_least, sumF_acc, mem, b1]; done)
      rw [e9]
      exact AW.locs (ih (i + 1) (a + ((o.1 8 (101 + 8 * i + 5)) * (tc_len (mm_bl (cntN (mf_ah (o.1 8) l i) m 0))))) (by omega) ) (lsub_keep (lsub_keep (lsub_keep (lsub_keep lsub_nil))))
theorem rt_best {ad : Nat → Nat → Nat → Nat} {o : wd_S} {n m c : Nat} (V : mv o n m c) (hr : ∀ l i, i < m → o.1 8 (101 + 8 * i + 1) = nI l → cntN (mf_ah (o.1 8) l i) m 0 < 14) {x : Int32} : CT ad MX8_bestCodes [.ref (ad 14 0 0), .int x] o (OT (rf_best o n m x)) := by
  obtain ⟨G, hk, hc⟩ := id V
  obtain ⟨g1, g2, g3, g4, g5, g6⟩ := id G
  refine CT.of (L := [some (.ref (ad 14 0 0)), some (.int x), none, none]) rfl rfl (by decide) (Nat.le_of_ble_eq_true rfl) rfl ?_
  refine aw_aload_n (x := ad 14 0 0) rfl dX8_bestCodes_0 ?_
  refine aw_aload_n (x := ad 14 0 0) rfl dX8_bestCodes_1 ?_
  refine aw_aload_n (x := ad 14 0 0) rfl dX8_bestCodes_2 ?_
  refine aw_iload_n (x := x) rfl dX8_bestCodes_3 ?_
  rcases k1 : lk n x with _ | l
  · skip
    refine aw_rV (As := [.int x]) (S := [.ref (ad 14 0 0), .ref (ad 14 0 0)]) (v := some (.int 0)) (o2 := o) (ct_X8_isLoop_none G k1) (mm_fit_of cbX8_isLoop (by decide) (by decide)) wq941 cvX8_isLoop wv14 rfl rfl rfl (Nat.le_of_ble_eq_true rfl) (by decide) (by decide) rfl dX8_bestCodes_4 ?_
    refine aw_rV (As := [.int 0]) (S := [.ref (ad 14 0 0)]) (v := some (.int 1)) (o2 := o) (ct_need_0) (mm_fit_of cbX8_need (by decide) (by decide)) wq1053 cvX8_need wv14 rfl rfl rfl (Nat.le_of_ble_eq_true rfl) (by decide) (by decide) rfl dX8_bestCodes_7 ?_
    refine aw_rV (As := [.int 1]) (S := []) (v := some (.int 1)) (o2 := (wd_w o 12 1 1)) (ct_refused_p (by decide)) (mm_fit_of cbX8_refused (by decide) (by decide)) wq922 cvX8_refused wv14 rfl rfl rfl (Nat.le_of_ble_eq_true rfl) (by decide) (by decide) rfl dX8_bestCodes_10 ?_
    obtain ⟨o1, ho1⟩ : ∃ z, z = (wd_w o 12 1 1) := ⟨_, rfl⟩
    rw [← ho1]
    have Go1 : cg (o1.1 8) n m := by rw [ho1]; rw [wd_w_row, row_ne _ _ (by decide)]; exact G
    refine aw_if_eq (tgt := 18) (by decide) dX8_bestCodes_13 (fun z => absurd z (by decide)) (fun _ => ?_)
    refine aw_iconst (v := 0) (by decide) dX8_bestCodes_16 ?_
    exact aw_iret rfl (by decide) (by decide) dX8_bestCodes_17 ⟨by (subst ho1; first | with_reducible rfl | (simp [rf_best, mS, mS_8, oI, mR, oI, mR, wd_w_row, row_self, row_row, k1]; done) | (simp_all [rf_best, mS, mS_8, oI, mR, oI, mR, wd_w_row, row_self, row_row, k1]; done) | (simp only [wd_w_row, row_self, row_row, i32_add0, row_ne _ _ (show (8 : Nat) ≠ 12 by decide)] at *; simp [rf_best, mS, mS_8, oI, mR, oI, mR, wd_w_row, row_self, row_row, k1]; done)), by (subst ho1; first | with_reducible rfl | (simp [rf_best, mS, mS_8, oI, mR, oI, mR, wd_w_row, row_self, row_row, k1]; done) | (simp_all [rf_best, mS, mS_8, oI, mR, oI, mR, wd_w_row, row_self, row_row, k1]; done) | (simp only [wd_w_row, row_self, row_row, i32_add0, row_ne _ _ (show (8 : Nat) ≠ 12 by decide)] at *; simp [rf_best, mS, mS_8, oI, mR, oI, mR, wd_w_row, row_self, row_row, k1]; done))⟩
  · skip
    obtain ⟨rfl, k1l⟩ := lk_some k1
    have k1b : l < 5 := by omega
    refine aw_rV (As := [.int (nI l)]) (S := [.ref (ad 14 0 0), .ref (ad 14 0 0)]) (v := some (.int 1)) (o2 := o) (ct_X8_isLoop_some G k1) (mm_fit_of cbX8_isLoop (by decide) (by decide)) wq941 cvX8_isLoop wv14 rfl rfl rfl (Nat.le_of_ble_eq_true rfl) (by decide) (by decide) rfl dX8_bestCodes_4 ?_
    refine aw_rV (As := [.int 1]) (S := [.ref (ad 14 0 0)]) (v := some (.int 0)) (o2 := o) (ct_need_1) (mm_fit_of cbX8_need (by decide) (by decide)) wq1053 cvX8_need wv14 rfl rfl rfl (Nat.le_of_ble_eq_true rfl) (by decide) (by decide) rfl dX8_bestCodes_7 ?_
    refine aw_rV (As := [.int 0]) (S := []) (v := some (.int 0)) (o2 := (wd_w o 12 1 0)) (ct_refused_0) (mm_fit_of cbX8_refused (by decide) (by decide)) wq922 cvX8_refused wv14 rfl rfl rfl (Nat.le_of_ble_eq_true rfl) (by decide) (by decide) rfl dX8_bestCodes_10 ?_
    obtain ⟨o2, ho2⟩ : ∃ z, z = (wd_w o 12 1 0) := ⟨_, rfl⟩
    rw [← ho2]
    have Go2 : cg (o2.1 8) n m := by rw [ho2]; rw [wd_w_row, row_ne _ _ (by decide)]; exact G
    refine aw_if_eq (tgt := 18) (by decide) dX8_bestCodes_13 (fun _ => ?_) (fun z => absurd z (by decide))
    refine aw_iconst (v := 0) (by decide) dX8_bestCodes_18 ?_
    refine aw_istore_n (L2 := [some (.ref (ad 14 0 0)), some (.int (nI l)), some (.int 0), none]) (by decide) rfl rfl dX8_bestCodes_19 ?_
    refine aw_iconst (v := 0) (by decide) dX8_bestCodes_20 ?_
    refine aw_istore_n (L2 := [some (.ref (ad 14 0 0)), some (.int (nI l)), some (.int 0), some (.int 0)]) (by decide) rfl rfl dX8_bestCodes_21 ?_
    have E8 : o2.1 8 = o.1 8 := by rw [ho2, wd_w_row, row_ne _ _ (by decide)]
    refine AW.post (lp_X8_best Go2 (by omega) (by rw [E8]; exact hr l) m 0 0 (by omega)) (fun r o2 q => ?_)
    rw [E8] at q; subst ho2; simpa [rf_best, k1, OT, oI, RT] using q
theorem rt_isCut {ad : Nat → Nat → Nat → Nat} {o : wd_S} {n m c : Nat} (V : mv o n m c) {x : Int32} : CT ad MX8_isCut [.ref (ad 14 0 0), .int x] o (OT (rf_isCut o m x)) := by
  obtain ⟨G, hk, hc⟩ := id V
  obtain ⟨g1, g2, g3, g4, g5, g6⟩ := id G
  refine CT.of (L := [some (.ref (ad 14 0 0)), some (.int x)]) rfl rfl (by decide) (Nat.le_of_ble_eq_true rfl) rfl ?_
  refine aw_aload_n (x := ad 14 0 0) rfl dX8_isCut_0 ?_
  refine aw_aload_n (x := ad 14 0 0) rfl dX8_isCut_1 ?_
  refine aw_aload_n (x := ad 14 0 0) rfl dX8_isCut_2 ?_
  refine aw_iload_n (x := x) rfl dX8_isCut_3 ?_
  rcases k1 : lk m x with _ | s
  · skip
    refine aw_rV (As := [.int x]) (S := [.ref (ad 14 0 0), .ref (ad 14 0 0)]) (v := some (.int 0)) (o2 := o) (ct_X8_isOne_none G k1) (mm_fit_of cbX8_isOne (by decide) (by decide)) wq961 cvX8_isOne wv14 rfl rfl rfl (Nat.le_of_ble_eq_true rfl) (by decide) (by decide) rfl dX8_isCut_4 ?_
    refine aw_rV (As := [.int 0]) (S := [.ref (ad 14 0 0)]) (v := some (.int 1)) (o2 := o) (ct_need_0) (mm_fit_of cbX8_need (by decide) (by decide)) wq1053 cvX8_need wv14 rfl rfl rfl (Nat.le_of_ble_eq_true rfl) (by decide) (by decide) rfl dX8_isCut_7 ?_
    refine aw_rV (As := [.int 1]) (S := []) (v := some (.int 1)) (o2 := (wd_w o 12 1 1)) (ct_refused_p (by decide)) (mm_fit_of cbX8_refused (by decide) (by decide)) wq922 cvX8_refused wv14 rfl rfl rfl (Nat.le_of_ble_eq_true rfl) (by decide) (by decide) rfl dX8_isCut_10 ?_
    obtain ⟨o1, ho1⟩ : ∃ z, z = (wd_w o 12 1 1) := ⟨_, rfl⟩
    rw [← ho1]
    have Go1 : cg (o1.1 8) n m := by rw [ho1]; rw [wd_w_row, row_ne _ _ (by decide)]; exact G
    refine aw_if_ne (tgt := 28) (by decide) dX8_isCut_13 (fun _ => ?_) (fun z => absurd z (by decide))
    refine aw_iconst (v := 0) (by decide) dX8_isCut_28 ?_
    exact aw_zret rfl (by decide) (by decide) (by decide) dX8_isCut_29 ⟨by (subst ho1; first | with_reducible rfl | (simp [rf_isCut, row_ne _ _ (show (8 : Nat) ≠ 12 by decide), mS, mS_8, oI, mR, oI, mR, wd_w_row, row_self, row_row, k1]; done) | (simp_all [rf_isCut, row_ne _ _ (show (8 : Nat) ≠ 12 by decide), mS, mS_8, oI, mR, oI, mR, wd_w_row, row_self, row_row, k1]; done) | (simp only [wd_w_row, row_self, row_row, i32_add0, row_ne _ _ (show (8 : Nat) ≠ 12 by decide)] at *; simp [rf_isCut, row_ne _ _ (show (8 : Nat) ≠ 12 by decide), mS, mS_8, oI, mR, oI, mR, wd_w_row, row_self, row_row, k1]; done)), by (subst ho1; first | with_reducible rfl | (simp [rf_isCut, row_ne _ _ (show (8 : Nat) ≠ 12 by decide), mS, mS_8, oI, mR, oI, mR, wd_w_row, row_self, row_row, k1]; done) | (simp_all [rf_isCut, row_ne _ _ (show (8 : Nat) ≠ 12 by decide), mS, mS_8, oI, mR, oI, mR, wd_w_row, row_self, row_row, k1]; done) | (simp only [wd_w_row, row_self, row_row, i32_add0, row_ne _ _ (show (8 : Nat) ≠ 12 by decide)] at *; simp [rf_isCut, row_ne _ _ (show (8 : Nat) ≠ 12 by decide), mS, mS_8, oI, mR, oI, mR, wd_w_row, row_self, row_row, k1]; done))⟩
  · skip
    obtain ⟨rfl, k1l⟩ := lk_some k1
    have k1b : s < 16 := by omega
    refine aw_rV (As := [.int (nI s)]) (S := [.ref (ad 14 0 0), .ref (ad 14 0 0)]) (v := some (.int 1)) (o2 := o) (ct_X8_isOne_some G k1) (mm_fit_of cbX8_isOne (by decide) (by decide)) wq961 cvX8_isOne wv14 rfl rfl rfl (Nat.le_of_ble_eq_true rfl) (by decide) (by decide) rfl dX8_isCut_4 ?_
    obtain ⟨lh, hlh, hh⟩ := G.2.2.2.2.1 s k1l
    have hlh5 : lh < 5 := by omega
    have hme : hm (o.1 8) s = lh := hm_of hh hlh5
    refine aw_rV (As := [.int 1]) (S := [.ref (ad 14 0 0)]) (v := some (.int 0)) (o2 := o) (ct_need_1) (mm_fit_of cbX8_need (by decide) (by decide)) wq1053 cvX8_need wv14 rfl rfl rfl (Nat.le_of_ble_eq_true rfl) (by decide) (by decide) rfl dX8_isCut_7 ?_
    refine aw_rV (As := [.int 0]) (S := []) (v := some (.int 0)) (o2 := (wd_w o 12 1 0)) (ct_refused_0) (mm_fit_of cbX8_refused (by decide) (by decide)) wq922 cvX8_refused wv14 rfl rfl rfl (Nat.le_of_ble_eq_true rfl) (by decide) (by decide) rfl dX8_isCut_10 ?_
    obtain ⟨o2, ho2⟩ : ∃ z, z = (wd_w o 12 1 0) := ⟨_, rfl⟩
    rw [← ho2]
    have Go2 : cg (o2.1 8) n m := by rw [ho2]; rw [wd_w_row, row_ne _ _ (by decide)]; exact G
    have hho2 : o2.1 8 (101 + 8 * s + 1) = nI lh := by rw [ho2]; rw [wd_w_row, row_ne _ _ (by decide)]; exact hh
    refine aw_if_ne (tgt := 28) (by decide) dX8_isCut_13 (fun z => absurd z (by decide)) (fun _ => ?_)
    refine aw_aload_n (x := ad 14 0 0) rfl dX8_isCut_16 ?_
    refine aw_iload_n (x := (nI s)) rfl dX8_isCut_17 ?_
    refine aw_rV (As := [.int (nI s)]) (S := []) (v := some (.int (mf_cut (o2.1 8) lh s))) (o2 := o2) (ct_X8_cut Go2 hlh5 (by omega) hho2) (mm_fit_of cbX8_cut (by decide) (by decide)) wq993 cvX8_cut wv14 rfl rfl rfl (Nat.le_of_ble_eq_true rfl) (by decide) (by decide) rfl dX8_isCut_18 ?_
    refine aw_if_eq (tgt := 28) (by decide) dX8_isCut_21 (fun b2 => ?_) (fun b2 => ?_)
    · skip
      refine aw_iconst (v := 0) (by decide) dX8_isCut_28 ?_
      exact aw_zret rfl (by decide) (by decide) (by decide) dX8_isCut_29 ⟨by (subst ho2; first | with_reducible rfl | (simp [rf_isCut, row_ne _ _ (show (8 : Nat) ≠ 12 by decide), mS, mS_8, oI, mR, oI, mR, wd_w_row, row_self, row_row, k1, hme, b2]; done) | (simp_all [rf_isCut, row_ne _ _ (show (8 : Nat) ≠ 12 by decide), mS, mS_8, oI, mR, oI, mR, wd_w_row, row_self, row_row, k1, hme, b2]; done) | (simp only [wd_w_row, row_self, row_row, i32_add0, row_ne _ _ (show (8 : Nat) ≠ 12 by decide)] at *; simp [rf_isCut, row_ne _ _ (show (8 : Nat) ≠ 12 by decide), mS, mS_8, oI, mR, oI, mR, wd_w_row, row_self, row_row, k1, hme, b2]; done)), by (subst ho2; first | with_reducible rfl | (simp [rf_isCut, row_ne _ _ (show (8 : Nat) ≠ 12 by decide), mS, mS_8, oI, mR, oI, mR, wd_w_row, row_self, row_row, k1, hme, b2]; done) | (simp_all [rf_isCut, row_ne _ _ (show (8 : Nat) ≠ 12 by decide), mS, mS_8, oI, mR, oI, mR, wd_w_row, row_self, row_row, k1, hme, b2]; done) | (simp only [wd_w_row, row_self, row_row, i32_add0, row_ne _ _ (show (8 : Nat) ≠ 12 by decide)] at *; simp [rf_isCut, row_ne _ _ (show (8 : Nat) ≠ 12 by decide), mS, mS_8, oI, mR, oI, mR, wd_w_row, row_self, row_row, k1, hme, b2]; done))⟩
    · skip
      refine aw_iconst (v := 1) (by decide) dX8_isCut_24 ?_
      refine aw_goto (tgt := 29) (by decide) dX8_isCut_25 ?_
      exact aw_zret rfl (by decide) (by decide) (by decide) dX8_isCut_29 ⟨by (subst ho2; first | with_reducible rfl | (simp [rf_isCut, row_ne _ _ (show (8 : Nat) ≠ 12 by decide), mS, mS_8, oI, mR, oI, mR, wd_w_row, row_self, row_row, k1, hme, b2]; done) | (simp_all [rf_isCut, row_ne _ _ (show (8 : Nat) ≠ 12 by decide), mS, mS_8, oI, mR, oI, mR, wd_w_row, row_self, row_row, k1, hme, b2]; done) | (simp only [wd_w_row, row_self, row_row, i32_add0, row_ne _ _ (show (8 : Nat) ≠ 12 by decide)] at *; simp [rf_isCut, row_ne _ _ (show (8 : Nat) ≠ 12 by decide), mS, mS_8, oI, mR, oI, mR, wd_w_row, row_self, row_row, k1, hme, b2]; done)), by (subst ho2; first | with_reducible rfl | (simp [rf_isCut, row_ne _ _ (show (8 : Nat) ≠ 12 by decide), mS, mS_8, oI, mR, oI, mR, wd_w_row, row_self, row_row, k1, hme, b2]; done) | (simp_all [rf_isCut, row_ne _ _ (show (8 : Nat) ≠ 12 by decide), mS, mS_8, oI, mR, oI, mR, wd_w_row, row_self, row_row, k1, hme, b2]; done) | (simp only [wd_w_row, row_self, row_row, i32_add0, row_ne _ _ (show (8 : Nat) ≠ 12 by decide)] at *; simp [rf_isCut, row_ne _ _ (show (8 : Nat) ≠ 12 by decide), mS, mS_8, oI, mR, oI, mR, wd_w_row, row_self, row_row, k1, hme, b2]; done))⟩
theorem rt_risk {ad : Nat → Nat → Nat → Nat} {o : wd_S} {n m c : Nat} (V : mv o n m c) {x r : Int32} {j : Nat} (hj1 : 1 ≤ j) (hj2 : j ≤ 12) : CT ad MX8_setRisk [.ref (ad 14 0 0), .int x, .int (nI j), .int r] o (OT (rf_risk o n c x r j)) := by
  obtain ⟨G, hk, hc⟩ := id V
  obtain ⟨g1, g2, g3, g4, g5, g6⟩ := id G
  refine CT.of (L := [some (.ref (ad 14 0 0)), some (.int x), some (.int (nI j)), some (.int r), none, none]) rfl rfl (by decide) (Nat.le_of_ble_eq_true rfl) rfl ?_
  refine aw_aload_n (x := ad 14 0 0) rfl dX8_setRisk_0 ?_
  refine aw_iload_n (x := x) rfl dX8_setRisk_1 ?_
  rcases k1 : lk n x with _ | l
  · skip
    refine aw_rV (As := [.int x]) (S := []) (v := some (.int 0)) (o2 := o) (ct_X8_isLoop_none G k1) (mm_fit_of cbX8_isLoop (by decide) (by decide)) wq941 cvX8_isLoop wv14 rfl rfl rfl (Nat.le_of_ble_eq_true rfl) (by decide) (by decide) rfl dX8_setRisk_2 ?_
    refine aw_if_eq (tgt := 22) (by decide) dX8_setRisk_5 (fun _ => ?_) (fun z => absurd z (by decide))
    refine aw_iconst (v := 0) (by decide) dX8_setRisk_22 ?_
    refine aw_istore (L2 := [some (.ref (ad 14 0 0)), some (.int x), some (.int (nI j)), some (.int r), some (.int 0), none]) (by decide) rfl rfl dX8_setRisk_23 ?_
    refine aw_aload_n (x := ad 14 0 0) rfl dX8_setRisk_25 ?_
    refine aw_iload (x := 0) rfl dX8_setRisk_26 ?_
    refine aw_if_ne (tgt := 35) (by decide) dX8_setRisk_28 (fun z => absurd z (by decide)) (fun _ => ?_)
    refine aw_iconst (v := 1) (by decide) dX8_setRisk_31 ?_
    refine aw_goto (tgt := 50) (by decide) dX8_setRisk_32 ?_
    refine aw_rV (As := [.int 1]) (S := []) (v := some (.int 1)) (o2 := (wd_w o 12 1 1)) (ct_refused_p (by decide)) (mm_fit_of cbX8_refused (by decide) (by decide)) wq922 cvX8_refused wv14 rfl rfl rfl (Nat.le_of_ble_eq_true rfl) (by decide) (by decide) rfl dX8_setRisk_50 ?_
    obtain ⟨o1, ho1⟩ : ∃ z, z = (wd_w o 12 1 1) := ⟨_, rfl⟩
    rw [← ho1]
    have Go1 : cg (o1.1 8) n m := by rw [ho1]; rw [wd_w_row, row_ne _ _ (by decide)]; exact G
    refine aw_if_eq (tgt := 58) (by decide) dX8_setRisk_53 (fun z => absurd z (by decide)) (fun _ => ?_)
    refine aw_iconst (v := 0) (by decide) dX8_setRisk_56 ?_
    exact aw_iret rfl (by decide) (by decide) dX8_setRisk_57 ⟨by (subst ho1; first | with_reducible rfl | (simp [rf_risk, show ∀ l j, 20 * l + (7 + j) + 1 = 20 * l + 8 + j by omega, mS, mS_8, oI, mR, oI, mR, wd_w_row, row_self, row_row, k1]; done) | (simp_all [rf_risk, show ∀ l j, 20 * l + (7 + j) + 1 = 20 * l + 8 + j by omega, mS, mS_8, oI, mR, oI, mR, wd_w_row, row_self, row_row, k1]; done) | (simp only [wd_w_row, row_self, row_row, i32_add0, row_ne _ _ (show (8 : Nat) ≠ 12 by decide)] at *; simp [rf_risk, show ∀ l j, 20 * l + (7 + j) + 1 = 20 * l + 8 + j by omega, mS, mS_8, oI, mR, oI, mR, wd_w_row, row_self, row_row, k1]; done)), by (subst ho1; first | with_reducible rfl | (simp [rf_risk, show ∀ l j, 20 * l + (7 + j) + 1 = 20 * l + 8 + j by omega, mS, mS_8, oI, mR, oI, mR, wd_w_row, row_self, row_row, k1]; done) | (simp_all [rf_risk, show ∀ l j, 20 * l + (7 + j) + 1 = 20 * l + 8 + j by omega, mS, mS_8, oI, mR, oI, mR, wd_w_row, row_self, row_row, k1]; done) | (simp only [wd_w_row, row_self, row_row, i32_add0, row_ne _ _ (show (8 : Nat) ≠ 12 by decide)] at *; simp [rf_risk, show ∀ l j, 20 * l + (7 + j) + 1 = 20 * l + 8 + j by omega, mS, mS_8, oI, mR, oI, mR, wd_w_row, row_self, row_row, k1]; done))⟩
  · skip
    obtain ⟨rfl, k1l⟩ := lk_some k1
    have k1b : l < 5 := by omega
    refine aw_rV (As := [.int (nI l)]) (S := []) (v := some (.int 1)) (o2 := o) (ct_X8_isLoop_some G k1) (mm_fit_of cbX8_isLoop (by decide) (by decide)) wq941 cvX8_isLoop wv14 rfl rfl rfl (Nat.le_of_ble_eq_true rfl) (by decide) (by decide) rfl dX8_setRisk_2 ?_
    refine aw_if_eq (tgt := 22) (by decide) dX8_setRisk_5 (fun z => absurd z (by decide)) (fun _ => ?_)
    refine aw_iload_n (x := (nI j)) rfl dX8_setRisk_8 ?_
    refine aw_iconst (v := 1) (by decide) dX8_setRisk_9 ?_
    refine aw_bipush (v := 12) (by decide) dX8_setRisk_10 ?_
    refine aw_rS (As := [.int (nI j), .int 1, .int 12]) (S := []) (v := some (.int 1)) (o2 := o) (ct_within_in (nI_nlt (b := 1) hj1 (by omega)) (nI_nlt (a := 12) hj2 (by decide))) (mm_fit_of cbX8_within (by decide) (by decide)) wq938 wq939 rfl rfl (Nat.le_of_ble_eq_true rfl) (by decide) (by decide) rfl dX8_setRisk_12 ?_
    refine aw_if_eq (tgt := 22) (by decide) dX8_setRisk_15 (fun z => absurd z (by decide)) (fun _ => ?_)
    refine aw_iconst (v := 1) (by decide) dX8_setRisk_18 ?_
    refine aw_goto (tgt := 23) (by decide) dX8_setRisk_19 ?_
    refine aw_istore (L2 := [some (.ref (ad 14 0 0)), some (.int (nI l)), some (.int (nI j)), some (.int r), some (.int 1), none]) (by decide) rfl rfl dX8_setRisk_23 ?_
    refine aw_aload_n (x := ad 14 0 0) rfl dX8_setRisk_25 ?_
    refine aw_iload (x := 1) rfl dX8_setRisk_26 ?_
    refine aw_if_ne (tgt := 35) (by decide) dX8_setRisk_28 (fun _ => ?_) (fun z => absurd z (by decide))
    refine aw_iload_n (x := r) rfl dX8_setRisk_35 ?_
    refine aw_iconst (v := 1) (by decide) dX8_setRisk_36 ?_
    refine aw_bipush (v := 9) (by decide) dX8_setRisk_37 ?_
    by_cases w2 : r < 1
    · skip
      refine aw_rS (As := [.int r, .int 1, .int 9]) (S := [.ref (ad 14 0 0)]) (v := some (.int 0)) (o2 := o) (ct_within_lo w2) (mm_fit_of cbX8_within (by decide) (by decide)) wq938 wq939 rfl rfl (Nat.le_of_ble_eq_true rfl) (by decide) (by decide) rfl dX8_setRisk_39 ?_
      refine aw_if_ne (tgt := 49) (by decide) dX8_setRisk_42 (fun z => absurd z (by decide)) (fun _ => ?_)
      refine aw_iconst (v := 2) (by decide) dX8_setRisk_45 ?_
      refine aw_goto (tgt := 50) (by decide) dX8_setRisk_46 ?_
      refine aw_rV (As := [.int 2]) (S := []) (v := some (.int 1)) (o2 := (wd_w o 12 1 2)) (ct_refused_p (by decide)) (mm_fit_of cbX8_refused (by decide) (by decide)) wq922 cvX8_refused wv14 rfl rfl rfl (Nat.le_of_ble_eq_true rfl) (by decide) (by decide) rfl dX8_setRisk_50 ?_
      obtain ⟨o2, ho2⟩ : ∃ z, z = (wd_w o 12 1 2) := ⟨_, rfl⟩
      rw [← ho2]
      have Go2 : cg (o2.1 8) n m := by rw [ho2]; rw [wd_w_row, row_ne _ _ (by decide)]; exact G
      refine aw_if_eq (tgt := 58) (by decide) dX8_setRisk_53 (fun z => absurd z (by decide)) (fun _ => ?_)
      refine aw_iconst (v := 0) (by decide) dX8_setRisk_56 ?_
      exact aw_iret rfl (by decide) (by decide) dX8_setRisk_57 ⟨by (subst ho2; first | with_reducible rfl | (simp [rf_risk, show ∀ l j, 20 * l + (7 + j) + 1 = 20 * l + 8 + j by omega, mS, mS_8, oI, mR, oI, mR, wd_w_row, row_self, row_row, k1, w2]; done) | (simp_all [rf_risk, show ∀ l j, 20 * l + (7 + j) + 1 = 20 * l + 8 + j by omega, mS, mS_8, oI, mR, oI, mR, wd_w_row, row_self, row_row, k1, w2]; done) | (simp only [wd_w_row, row_self, row_row, i32_add0, row_ne _ _ (show (8 : Nat) ≠ 12 by decide)] at *; simp [rf_risk, show ∀ l j, 20 * l + (7 + j) + 1 = 20 * l + 8 + j by omega, mS, mS_8, oI, mR, oI, mR, wd_w_row, row_self, row_row, k1, w2]; done)), by (subst ho2; first | with_reducible rfl | (simp [rf_risk, show ∀ l j, 20 * l + (7 + j) + 1 = 20 * l + 8 + j by omega, mS, mS_8, oI, mR, oI, mR, wd_w_row, row_self, row_row, k1, w2]; done) | (simp_all [rf_risk, show ∀ l j, 20 * l + (7 + j) + 1 = 20 * l + 8 + j by omega, mS, mS_8, oI, mR, oI, mR, wd_w_row, row_self, row_row, k1, w2]; done) | (simp only [wd_w_row, row_self, row_row, i32_add0, row_ne _ _ (show (8 : Nat) ≠ 12 by decide)] at *; simp [rf_risk, show ∀ l j, 20 * l + (7 + j) + 1 = 20 * l + 8 + j by omega, mS, mS_8, oI, mR, oI, mR, wd_w_row, row_self, row_row, k1, w2]; done))⟩
    · skip
      by_cases zw2 : r > 9
      · skip
        refine aw_rS (As := [.int r, .int 1, .int 9]) (S := [.ref (ad 14 0 0)]) (v := some (.int 0)) (o2 := o) (ct_within_hi zw2) (mm_fit_of cbX8_within (by decide) (by decide)) wq938 wq939 rfl rfl (Nat.le_of_ble_eq_true rfl) (by decide) (by decide) rfl dX8_setRisk_39 ?_
        refine aw_if_ne (tgt := 49) (by decide) dX8_setRisk_42 (fun z => absurd z (by decide)) (fun _ => ?_)
        refine aw_iconst (v := 2) (by decide) dX8_setRisk_45 ?_
        refine aw_goto (tgt := 50) (by decide) dX8_setRisk_46 ?_
        refine aw_rV (As := [.int 2]) (S := []) (v := some (.int 1)) (o2 := (wd_w o 12 1 2)) (ct_refused_p (by decide)) (mm_fit_of cbX8_refused (by decide) (by decide)) wq922 cvX8_refused wv14 rfl rfl rfl (Nat.le_of_ble_eq_true rfl) (by decide) (by decide) rfl dX8_setRisk_50 ?_
        obtain ⟨o3, ho3⟩ : ∃ z, z = (wd_w o 12 1 2) := ⟨_, rfl⟩
        rw [← ho3]
        have Go3 : cg (o3.1 8) n m := by rw [ho3]; rw [wd_w_row, row_ne _ _ (by decide)]; exact G
        refine aw_if_eq (tgt := 58) (by decide) dX8_setRisk_53 (fun z => absurd z (by decide)) (fun _ => ?_)
        refine aw_iconst (v := 0) (by decide) dX8_setRisk_56 ?_
        exact aw_iret rfl (by decide) (by decide) dX8_setRisk_57 ⟨by (subst ho3; first | with_reducible rfl | (simp [rf_risk, show ∀ l j, 20 * l + (7 + j) + 1 = 20 * l + 8 + j by omega, mS, mS_8, oI, mR, oI, mR, wd_w_row, row_self, row_row, k1, w2, zw2]; done) | (simp_all [rf_risk, show ∀ l j, 20 * l + (7 + j) + 1 = 20 * l + 8 + j by omega, mS, mS_8, oI, mR, oI, mR, wd_w_row, row_self, row_row, k1, w2, zw2]; done) | (simp only [wd_w_row, row_self, row_row, i32_add0, row_ne _ _ (show (8 : Nat) ≠ 12 by decide)] at *; simp [rf_risk, show ∀ l j, 20 * l + (7 + j) + 1 = 20 * l + 8 + j by omega, mS, mS_8, oI, mR, oI, mR, wd_w_row, row_self, row_row, k1, w2, zw2]; done)), by (subst ho3; first | with_reducible rfl | (simp [rf_risk, show ∀ l j, 20 * l + (7 + j) + 1 = 20 * l + 8 + j by omega, mS, mS_8, oI, mR, oI, mR, wd_w_row, row_self, row_row, k1, w2, zw2]; done) | (simp_all [rf_risk, show ∀ l j, 20 * l + (7 + j) + 1 = 20 * l + 8 + j by omega, mS, mS_8, oI, mR, oI, mR, wd_w_row, row_self, row_row, k1, w2, zw2]; done) | (simp only [wd_w_row, row_self, row_row, i32_add0, row_ne _ _ (show (8 : Nat) ≠ 12 by decide)] at *; simp [rf_risk, show ∀ l j, 20 * l + (7 + j) + 1 = 20 * l + 8 + j by omega, mS, mS_8, oI, mR, oI, mR, wd_w_row, row_self, row_row, k1, w2, zw2]; done))⟩
      · skip
        refine aw_rS (As := [.int r, .int 1, .int 9]) (S := [.ref (ad 14 0 0)]) (v := some (.int 1)) (o2 := o) (ct_within_in w2 zw2) (mm_fit_of cbX8_within (by decide) (by decide)) wq938 wq939 rfl rfl (Nat.le_of_ble_eq_true rfl) (by decide) (by decide) rfl dX8_setRisk_39 ?_
        refine aw_if_ne (tgt := 49) (by decide) dX8_setRisk_42 (fun _ => ?_) (fun z => absurd z (by decide))
        refine aw_iconst (v := 0) (by decide) dX8_setRisk_49 ?_
        refine aw_rV (As := [.int 0]) (S := []) (v := some (.int 0)) (o2 := (wd_w o 12 1 0)) (ct_refused_0) (mm_fit_of cbX8_refused (by decide) (by decide)) wq922 cvX8_refused wv14 rfl rfl rfl (Nat.le_of_ble_eq_true rfl) (by decide) (by decide) rfl dX8_setRisk_50 ?_
        obtain ⟨o4, ho4⟩ : ∃ z, z = (wd_w o 12 1 0) := ⟨_, rfl⟩
        rw [← ho4]
        have Go4 : cg (o4.1 8) n m := by rw [ho4]; rw [wd_w_row, row_ne _ _ (by decide)]; exact G
        refine aw_if_eq (tgt := 58) (by decide) dX8_setRisk_53 (fun _ => ?_) (fun z => absurd z (by decide))
        refine aw_aload_n (x := ad 14 0 0) rfl dX8_setRisk_58 ?_
        refine aw_rV (As := []) (S := []) (v := none) (o2 := (ms_sv o4 c)) (ct_X8_saves (by rw [ho4, wd_get, if_neg (by decide)]; exact hk) hc) (mm_fit_of cbX8_saves (by decide) (by decide)) wq930 cvX8_saves wv14 rfl rfl rfl (Nat.le_of_ble_eq_true rfl) (by decide) (by decide) rfl dX8_setRisk_59 ?_
        obtain ⟨o5, ho5⟩ : ∃ z, z = (ms_sv o4 c) := ⟨_, rfl⟩
        rw [← ho5]
        have Go5 : cg (o5.1 8) n m := by rw [ho5]; rw [msv_ne (by decide) (by decide)]; exact Go4
        refine aw_aload_n (x := ad 14 0 0) rfl dX8_setRisk_62 ?_
        refine aw_iload_n (x := (nI l)) rfl dX8_setRisk_63 ?_
        refine aw_bipush (v := 8) (by decide) dX8_setRisk_64 ?_
        refine aw_iload_n (x := (nI j)) rfl dX8_setRisk_66 ?_
        refine aw_iaddz (z := nI (8 + j)) (nI_add 8 j) dX8_setRisk_67 ?_
        refine aw_iconst (v := 1) (by decide) dX8_setRisk_68 ?_
        refine aw_isubz (z := nI (7 + j)) (nI_87 j) dX8_setRisk_69 ?_
        refine aw_rV (As := [.int (nI l), .int (nI (7 + j))]) (S := []) (v := some (.int (o5.1 8 (20 * l + (7 + j) + 1)))) (o2 := o5) (ct_X8_of (l := l) (w := 7 + j) (by omega) (by omega)) (mm_fit_of cbX8_of (by decide) (by decide)) wq969 cvX8_of wv14 rfl rfl rfl (Nat.le_of_ble_eq_true rfl) (by decide) (by decide) rfl dX8_setRisk_70 ?_
        refine aw_istore (L2 := [some (.ref (ad 14 0 0)), some (.int (nI l)), some (.int (nI j)), some (.int r), some (.int 1), some (.int (o5.1 8 (20 * l + (7 + j) + 1)))]) (by decide) rfl rfl dX8_setRisk_73 ?_
        refine aw_aload_n (x := ad 14 0 0) rfl dX8_setRisk_75 ?_
        refine aw_iload_n (x := (nI l)) rfl dX8_setRisk_76 ?_
        refine aw_bipush (v := 8) (by decide) dX8_setRisk_77 ?_
        refine aw_iload_n (x := (nI j)) rfl dX8_setRisk_79 ?_
        refine aw_iaddz (z := nI (8 + j)) (nI_add 8 j) dX8_setRisk_80 ?_
        refine aw_iconst (v := 1) (by decide) dX8_setRisk_81 ?_
        refine aw_isubz (z := nI (7 + j)) (nI_87 j) dX8_setRisk_82 ?_
        refine aw_iload_n (x := r) rfl dX8_setRisk_83 ?_
        refine aw_rV (As := [.int (nI l), .int (nI (7 + j)), .int r]) (S := []) (v := none) (o2 := (wd_w o5 8 (20 * l + (7 + j) + 1) r)) (ct_X8_put (l := l) (w := 7 + j) (by omega) (by omega)) (mm_fit_of cbX8_put (by decide) (by decide)) wq888 cvX8_put wv14 rfl rfl rfl (Nat.le_of_ble_eq_true rfl) (by decide) (by decide) rfl dX8_setRisk_84 ?_
        refine aw_iload (x := (o5.1 8 (20 * l + (7 + j) + 1))) rfl dX8_setRisk_87 ?_
        exact aw_iret rfl (by decide) (by decide) dX8_setRisk_89 ⟨by (subst ho5; subst ho4; first | with_reducible rfl | (simp [rf_risk, show ∀ l j, 20 * l + (7 + j) + 1 = 20 * l + 8 + j by omega, mS, mS_8, oI, mR, oI, mR, wd_w_row, row_self, row_row, k1, w2, zw2]; done) | (simp_all [rf_risk, show ∀ l j, 20 * l + (7 + j) + 1 = 20 * l + 8 + j by omega, mS, mS_8, oI, mR, oI, mR, wd_w_row, row_self, row_row, k1, w2, zw2]; done) | (simp only [wd_w_row, row_self, row_row, i32_add0, row_ne _ _ (show (8 : Nat) ≠ 12 by decide)] at *; simp [rf_risk, show ∀ l j, 20 * l + (7 + j) + 1 = 20 * l + 8 + j by omega, mS, mS_8, oI, mR, oI, mR, wd_w_row, row_self, row_row, k1, w2, zw2]; done)), by (subst ho5; subst ho4; first | with_reducible rfl | (simp [rf_risk, show ∀ l j, 20 * l + (7 + j) + 1 = 20 * l + 8 + j by omega, mS, mS_8, oI, mR, oI, mR, wd_w_row, row_self, row_row, k1, w2, zw2]; done) | (simp_all [rf_risk, show ∀ l j, 20 * l + (7 + j) + 1 = 20 * l + 8 + j by omega, mS, mS_8, oI, mR, oI, mR, wd_w_row, row_self, row_row, k1, w2, zw2]; done) | (simp only [wd_w_row, row_self, row_row, i32_add0, row_ne _ _ (show (8 : Nat) ≠ 12 by decide)] at *; simp [rf_risk, show ∀ l j, 20 * l + (7 + j) + 1 = 20 * l + 8 + j by omega, mS, mS_8, oI, mR, oI, mR, wd_w_row, row_self, row_row, k1, w2, zw2]; done))⟩
theorem rt_risk_bad {ad : Nat → Nat → Nat → Nat} {o : wd_S} {n m c : Nat} (V : mv o n m c) {x k r : Int32} (hb : cs_span k = 0) : CT ad MX8_setRisk [.ref (ad 14 0 0), .int x, .int k, .int r] o (OT (mR 1 o)) := by
  obtain ⟨G, hk, hc⟩ := id V
  obtain ⟨g1, g2, g3, g4, g5, g6⟩ := id G
  refine CT.of (L := [some (.ref (ad 14 0 0)), some (.int x), some (.int k), some (.int r), none, none]) rfl rfl (by decide) (Nat.le_of_ble_eq_true rfl) rfl ?_
  refine aw_aload_n (x := ad 14 0 0) rfl dX8_setRisk_0 ?_
  refine aw_iload_n (x := x) rfl dX8_setRisk_1 ?_
  rcases k1 : lk n x with _ | l
  · skip
    refine aw_rV (As := [.int x]) (S := []) (v := some (.int 0)) (o2 := o) (ct_X8_isLoop_none G k1) (mm_fit_of cbX8_isLoop (by decide) (by decide)) wq941 cvX8_isLoop wv14 rfl rfl rfl (Nat.le_of_ble_eq_true rfl) (by decide) (by decide) rfl dX8_setRisk_2 ?_
    refine aw_if_eq (tgt := 22) (by decide) dX8_setRisk_5 (fun _ => ?_) (fun z => absurd z (by decide))
    refine aw_iconst (v := 0) (by decide) dX8_setRisk_22 ?_
    refine aw_istore (L2 := [some (.ref (ad 14 0 0)), some (.int x), some (.int k), some (.int r), some (.int 0), none]) (by decide) rfl rfl dX8_setRisk_23 ?_
    refine aw_aload_n (x := ad 14 0 0) rfl dX8_setRisk_25 ?_
    refine aw_iload (x := 0) rfl dX8_setRisk_26 ?_
    refine aw_if_ne (tgt := 35) (by decide) dX8_setRisk_28 (fun z => absurd z (by decide)) (fun _ => ?_)
    refine aw_iconst (v := 1) (by decide) dX8_setRisk_31 ?_
    refine aw_goto (tgt := 50) (by decide) dX8_setRisk_32 ?_
    refine aw_rV (As := [.int 1]) (S := []) (v := some (.int 1)) (o2 := (wd_w o 12 1 1)) (ct_refused_p (by decide)) (mm_fit_of cbX8_refused (by decide) (by decide)) wq922 cvX8_refused wv14 rfl rfl rfl (Nat.le_of_ble_eq_true rfl) (by decide) (by decide) rfl dX8_setRisk_50 ?_
    obtain ⟨o1, ho1⟩ : ∃ z, z = (wd_w o 12 1 1) := ⟨_, rfl⟩
    rw [← ho1]
    have Go1 : cg (o1.1 8) n m := by rw [ho1]; rw [wd_w_row, row_ne _ _ (by decide)]; exact G
    refine aw_if_eq (tgt := 58) (by decide) dX8_setRisk_53 (fun z => absurd z (by decide)) (fun _ => ?_)
    refine aw_iconst (v := 0) (by decide) dX8_setRisk_56 ?_
    exact aw_iret rfl (by decide) (by decide) dX8_setRisk_57 ⟨by (subst ho1; first | with_reducible rfl | (simp [mS, mS_8, oI, mR, oI, mR, wd_w_row, row_self, row_row, k1]; done) | (simp_all [mS, mS_8, oI, mR, oI, mR, wd_w_row, row_self, row_row, k1]; done) | (simp only [wd_w_row, row_self, row_row, i32_add0, row_ne _ _ (show (8 : Nat) ≠ 12 by decide)] at *; simp [mS, mS_8, oI, mR, oI, mR, wd_w_row, row_self, row_row, k1]; done)), by (subst ho1; first | with_reducible rfl | (simp [mS, mS_8, oI, mR, oI, mR, wd_w_row, row_self, row_row, k1]; done) | (simp_all [mS, mS_8, oI, mR, oI, mR, wd_w_row, row_self, row_row, k1]; done) | (simp only [wd_w_row, row_self, row_row, i32_add0, row_ne _ _ (show (8 : Nat) ≠ 12 by decide)] at *; simp [mS, mS_8, oI, mR, oI, mR, wd_w_row, row_self, row_row, k1]; done))⟩
  · skip
    obtain ⟨rfl, k1l⟩ := lk_some k1
    have k1b : l < 5 := by omega
    refine aw_rV (As := [.int (nI l)]) (S := []) (v := some (.int 1)) (o2 := o) (ct_X8_isLoop_some G k1) (mm_fit_of cbX8_isLoop (by decide) (by decide)) wq941 cvX8_isLoop wv14 rfl rfl rfl (Nat.le_of_ble_eq_true rfl) (by decide) (by decide) rfl dX8_setRisk_2 ?_
    refine aw_if_eq (tgt := 22) (by decide) dX8_setRisk_5 (fun z => absurd z (by decide)) (fun _ => ?_)
    refine aw_iload_n (x := k) rfl dX8_setRisk_8 ?_
    refine aw_iconst (v := 1) (by decide) dX8_setRisk_9 ?_
    refine aw_bipush (v := 12) (by decide) dX8_setRisk_10 ?_
    refine aw_rS (As := [.int k, .int 1, .int 12]) (S := []) (v := some (.int 0)) (o2 := o) (by by_cases h1 : k < 1; exact ct_within_lo h1; by_cases h2 : k > 12; exact ct_within_hi h2; exact absurd hb (by simp [cs_span, h1, h2])) (mm_fit_of cbX8_within (by decide) (by decide)) wq938 wq939 rfl rfl (Nat.le_of_ble_eq_true rfl) (by decide) (by decide) rfl dX8_setRisk_12 ?_
    refine aw_if_eq (tgt := 22) (by decide) dX8_setRisk_15 (fun _ => ?_) (fun z => absurd z (by decide))
    refine aw_iconst (v := 0) (by decide) dX8_setRisk_22 ?_
    refine aw_istore (L2 := [some (.ref (ad 14 0 0)), some (.int (nI l)), some (.int k), some (.int r), some (.int 0), none]) (by decide) rfl rfl dX8_setRisk_23 ?_
    refine aw_aload_n (x := ad 14 0 0) rfl dX8_setRisk_25 ?_
    refine aw_iload (x := 0) rfl dX8_setRisk_26 ?_
    refine aw_if_ne (tgt := 35) (by decide) dX8_setRisk_28 (fun z => absurd z (by decide)) (fun _ => ?_)
    refine aw_iconst (v := 1) (by decide) dX8_setRisk_31 ?_
    refine aw_goto (tgt := 50) (by decide) dX8_setRisk_32 ?_
    refine aw_rV (As := [.int 1]) (S := []) (v := some (.int 1)) (o2 := (wd_w o 12 1 1)) (ct_refused_p (by decide)) (mm_fit_of cbX8_refused (by decide) (by decide)) wq922 cvX8_refused wv14 rfl rfl rfl (Nat.le_of_ble_eq_true rfl) (by decide) (by decide) rfl dX8_setRisk_50 ?_
    obtain ⟨o2, ho2⟩ : ∃ z, z = (wd_w o 12 1 1) := ⟨_, rfl⟩
    rw [← ho2]
    have Go2 : cg (o2.1 8) n m := by rw [ho2]; rw [wd_w_row, row_ne _ _ (by decide)]; exact G
    refine aw_if_eq (tgt := 58) (by decide) dX8_setRisk_53 (fun z => absurd z (by decide)) (fun _ => ?_)
    refine aw_iconst (v := 0) (by decide) dX8_setRisk_56 ?_
    exact aw_iret rfl (by decide) (by decide) dX8_setRisk_57 ⟨by (subst ho2; first | with_reducible rfl | (simp [mS, mS_8, oI, mR, oI, mR, wd_w_row, row_self, row_row, k1]; done) | (simp_all [mS, mS_8, oI, mR, oI, mR, wd_w_row, row_self, row_row, k1]; done) | (simp only [wd_w_row, row_self, row_row, i32_add0, row_ne _ _ (show (8 : Nat) ≠ 12 by decide)] at *; simp [mS, mS_8, oI, mR, oI, mR, wd_w_row, row_self, row_row, k1]; done)), by (subst ho2; first | with_reducible rfl | (simp [mS, mS_8, oI, mR, oI, mR, wd_w_row, row_self, row_row, k1]; done) | (simp_all [mS, mS_8, oI, mR, oI, mR, wd_w_row, row_self, row_row, k1]; done) | (simp only [wd_w_row, row_self, row_row, i32_add0, row_ne _ _ (show (8 : Nat) ≠ 12 by decide)] at *; simp [mS, mS_8, oI, mR, oI, mR, wd_w_row, row_self, row_row, k1]; done))⟩
theorem rt_test {ad : Nat → Nat → Nat → Nat} {o : wd_S} {n m c : Nat} (V : mv o n m c) {x k : Int32} : CT ad MX8_test [.ref (ad 14 0 0), .int x, .int k] o (OT (rf_test o n x k)) := by
  obtain ⟨G, hk, hc⟩ := id V
  obtain ⟨g1, g2, g3, g4, g5, g6⟩ := id G
  refine CT.of (L := [some (.ref (ad 14 0 0)), some (.int x), some (.int k), none]) rfl rfl (by decide) (Nat.le_of_ble_eq_true rfl) rfl ?_
  refine aw_aload_n (x := ad 14 0 0) rfl dX8_test_0 ?_
  refine aw_iload_n (x := x) rfl dX8_test_1 ?_
  rcases k1 : lk n x with _ | l
  · skip
    refine aw_rV (As := [.int x]) (S := []) (v := some (.int 0)) (o2 := o) (ct_X8_isLoop_none G k1) (mm_fit_of cbX8_isLoop (by decide) (by decide)) wq941 cvX8_isLoop wv14 rfl rfl rfl (Nat.le_of_ble_eq_true rfl) (by decide) (by decide) rfl dX8_test_2 ?_
    refine aw_istore_n (L2 := [some (.ref (ad 14 0 0)), some (.int x), some (.int k), some (.int 0)]) (by decide) rfl rfl dX8_test_5 ?_
    refine aw_aload_n (x := ad 14 0 0) rfl dX8_test_6 ?_
    refine aw_iload_n (x := 0) rfl dX8_test_7 ?_
    refine aw_if_ne (tgt := 15) (by decide) dX8_test_8 (fun z => absurd z (by decide)) (fun _ => ?_)
    refine aw_iconst (v := 1) (by decide) dX8_test_11 ?_
    refine aw_goto (tgt := 45) (by decide) dX8_test_12 ?_
    refine aw_rV (As := [.int 1]) (S := []) (v := some (.int 1)) (o2 := (wd_w o 12 1 1)) (ct_refused_p (by decide)) (mm_fit_of cbX8_refused (by decide) (by decide)) wq922 cvX8_refused wv14 rfl rfl rfl (Nat.le_of_ble_eq_true rfl) (by decide) (by decide) rfl dX8_test_45 ?_
    obtain ⟨o1, ho1⟩ : ∃ z, z = (wd_w o 12 1 1) := ⟨_, rfl⟩
    rw [← ho1]
    have Go1 : cg (o1.1 8) n m := by rw [ho1]; rw [wd_w_row, row_ne _ _ (by decide)]; exact G
    refine aw_if_eq (tgt := 53) (by decide) dX8_test_48 (fun z => absurd z (by decide)) (fun _ => ?_)
    refine aw_iconst (v := 0) (by decide) dX8_test_51 ?_
    exact aw_zret rfl (by decide) (by decide) (by decide) dX8_test_52 ⟨by (subst ho1; first | with_reducible rfl | (simp [rf_test, row_ne _ _ (show (8 : Nat) ≠ 12 by decide), mS, mS_8, oI, mR, oI, mR, wd_w_row, row_self, row_row, k1]; done) | (simp_all [rf_test, row_ne _ _ (show (8 : Nat) ≠ 12 by decide), mS, mS_8, oI, mR, oI, mR, wd_w_row, row_self, row_row, k1]; done) | (simp only [wd_w_row, row_self, row_row, i32_add0, row_ne _ _ (show (8 : Nat) ≠ 12 by decide)] at *; simp [rf_test, row_ne _ _ (show (8 : Nat) ≠ 12 by decide), mS, mS_8, oI, mR, oI, mR, wd_w_row, row_self, row_row, k1]; done)), by (subst ho1; first | with_reducible rfl | (simp [rf_test, row_ne _ _ (show (8 : Nat) ≠ 12 by decide), mS, mS_8, oI, mR, oI, mR, wd_w_row, row_self, row_row, k1]; done) | (simp_all [rf_test, row_ne _ _ (show (8 : Nat) ≠ 12 by decide), mS, mS_8, oI, mR, oI, mR, wd_w_row, row_self, row_row, k1]; done) | (simp only [wd_w_row, row_self, row_row, i32_add0, row_ne _ _ (show (8 : Nat) ≠ 12 by decide)] at *; simp [rf_test, row_ne _ _ (show (8 : Nat) ≠ 12 by decide), mS, mS_8, oI, mR, oI, mR, wd_w_row, row_self, row_row, k1]; done))⟩
  · skip
    obtain ⟨rfl, k1l⟩ := lk_some k1
    have k1b : l < 5 := by omega
    refine aw_rV (As := [.int (nI l)]) (S := []) (v := some (.int 1)) (o2 := o) (ct_X8_isLoop_some G k1) (mm_fit_of cbX8_isLoop (by decide) (by decide)) wq941 cvX8_isLoop wv14 rfl rfl rfl (Nat.le_of_ble_eq_true rfl) (by decide) (by decide) rfl dX8_test_2 ?_
    refine aw_istore_n (L2 := [some (.ref (ad 14 0 0)), some (.int (nI l)), some (.int k), some (.int 1)]) (by decide) rfl rfl dX8_test_5 ?_
    refine aw_aload_n (x := ad 14 0 0) rfl dX8_test_6 ?_
    refine aw_iload_n (x := 1) rfl dX8_test_7 ?_
    refine aw_if_ne (tgt := 15) (by decide) dX8_test_8 (fun _ => ?_) (fun z => absurd z (by decide))
    refine aw_iload_n (x := k) rfl dX8_test_15 ?_
    refine aw_iconst (v := 1) (by decide) dX8_test_16 ?_
    refine aw_bipush (v := 11) (by decide) dX8_test_17 ?_
    by_cases w2 : k < 1
    · skip
      refine aw_rS (As := [.int k, .int 1, .int 11]) (S := [.ref (ad 14 0 0)]) (v := some (.int 0)) (o2 := o) (ct_within_lo w2) (mm_fit_of cbX8_within (by decide) (by decide)) wq938 wq939 rfl rfl (Nat.le_of_ble_eq_true rfl) (by decide) (by decide) rfl dX8_test_19 ?_
      refine aw_if_ne (tgt := 29) (by decide) dX8_test_22 (fun z => absurd z (by decide)) (fun _ => ?_)
      refine aw_iconst (v := 2) (by decide) dX8_test_25 ?_
      refine aw_goto (tgt := 45) (by decide) dX8_test_26 ?_
      refine aw_rV (As := [.int 2]) (S := []) (v := some (.int 1)) (o2 := (wd_w o 12 1 2)) (ct_refused_p (by decide)) (mm_fit_of cbX8_refused (by decide) (by decide)) wq922 cvX8_refused wv14 rfl rfl rfl (Nat.le_of_ble_eq_true rfl) (by decide) (by decide) rfl dX8_test_45 ?_
      obtain ⟨o2, ho2⟩ : ∃ z, z = (wd_w o 12 1 2) := ⟨_, rfl⟩
      rw [← ho2]
      have Go2 : cg (o2.1 8) n m := by rw [ho2]; rw [wd_w_row, row_ne _ _ (by decide)]; exact G
      refine aw_if_eq (tgt := 53) (by decide) dX8_test_48 (fun z => absurd z (by decide)) (fun _ => ?_)
      refine aw_iconst (v := 0) (by decide) dX8_test_51 ?_
      exact aw_zret rfl (by decide) (by decide) (by decide) dX8_test_52 ⟨by (subst ho2; first | with_reducible rfl | (simp [rf_test, row_ne _ _ (show (8 : Nat) ≠ 12 by decide), mS, mS_8, oI, mR, oI, mR, wd_w_row, row_self, row_row, k1, w2]; done) | (simp_all [rf_test, row_ne _ _ (show (8 : Nat) ≠ 12 by decide), mS, mS_8, oI, mR, oI, mR, wd_w_row, row_self, row_row, k1, w2]; done) | (simp only [wd_w_row, row_self, row_row, i32_add0, row_ne _ _ (show (8 : Nat) ≠ 12 by decide)] at *; simp [rf_test, row_ne _ _ (show (8 : Nat) ≠ 12 by decide), mS, mS_8, oI, mR, oI, mR, wd_w_row, row_self, row_row, k1, w2]; done)), by (subst ho2; first | with_reducible rfl | (simp [rf_test, row_ne _ _ (show (8 : Nat) ≠ 12 by decide), mS, mS_8, oI, mR, oI, mR, wd_w_row, row_self, row_row, k1, w2]; done) | (simp_all [rf_test, row_ne _ _ (show (8 : Nat) ≠ 12 by decide), mS, mS_8, oI, mR, oI, mR, wd_w_row, row_self, row_row, k1, w2]; done) | (simp only [wd_w_row, row_self, row_row, i32_add0, row_ne _ _ (show (8 : Nat) ≠ 12 by decide)] at *; simp [rf_test, row_ne _ _ (show (8 : Nat) ≠ 12 by decide), mS, mS_8, oI, mR, oI, mR, wd_w_row, row_self, row_row, k1, w2]; done))⟩
    · skip
      by_cases zw2 : k > 11
      · skip
        refine aw_rS (As := [.int k, .int 1, .int 11]) (S := [.ref (ad 14 0 0)]) (v := some (.int 0)) (o2 := o) (ct_within_hi zw2) (mm_fit_of cbX8_within (by decide) (by decide)) wq938 wq939 rfl rfl (Nat.le_of_ble_eq_true rfl) (by decide) (by decide) rfl dX8_test_19 ?_
        refine aw_if_ne (tgt := 29) (by decide) dX8_test_22 (fun z => absurd z (by decide)) (fun _ => ?_)
        refine aw_iconst (v := 2) (by decide) dX8_test_25 ?_
        refine aw_goto (tgt := 45) (by decide) dX8_test_26 ?_
        refine aw_rV (As := [.int 2]) (S := []) (v := some (.int 1)) (o2 := (wd_w o 12 1 2)) (ct_refused_p (by decide)) (mm_fit_of cbX8_refused (by decide) (by decide)) wq922 cvX8_refused wv14 rfl rfl rfl (Nat.le_of_ble_eq_true rfl) (by decide) (by decide) rfl dX8_test_45 ?_
        obtain ⟨o3, ho3⟩ : ∃ z, z = (wd_w o 12 1 2) := ⟨_, rfl⟩
        rw [← ho3]
        have Go3 : cg (o3.1 8) n m := by rw [ho3]; rw [wd_w_row, row_ne _ _ (by decide)]; exact G
        refine aw_if_eq (tgt := 53) (by decide) dX8_test_48 (fun z => absurd z (by decide)) (fun _ => ?_)
        refine aw_iconst (v := 0) (by decide) dX8_test_51 ?_
        exact aw_zret rfl (by decide) (by decide) (by decide) dX8_test_52 ⟨by (subst ho3; first | with_reducible rfl | (simp [rf_test, row_ne _ _ (show (8 : Nat) ≠ 12 by decide), mS, mS_8, oI, mR, oI, mR, wd_w_row, row_self, row_row, k1, w2, zw2]; done) | (simp_all [rf_test, row_ne _ _ (show (8 : Nat) ≠ 12 by decide), mS, mS_8, oI, mR, oI, mR, wd_w_row, row_self, row_row, k1, w2, zw2]; done) | (simp only [wd_w_row, row_self, row_row, i32_add0, row_ne _ _ (show (8 : Nat) ≠ 12 by decide)] at *; simp [rf_test, row_ne _ _ (show (8 : Nat) ≠ 12 by decide), mS, mS_8, oI, mR, oI, mR, wd_w_row, row_self, row_row, k1, w2, zw2]; done)), by (subst ho3; first | with_reducible rfl | (simp [rf_test, row_ne _ _ (show (8 : Nat) ≠ 12 by decide), mS, mS_8, oI, mR, oI, mR, wd_w_row, row_self, row_row, k1, w2, zw2]; done) | (simp_all [rf_test, row_ne _ _ (show (8 : Nat) ≠ 12 by decide), mS, mS_8, oI, mR, oI, mR, wd_w_row, row_self, row_row, k1, w2, zw2]; done) | (simp only [wd_w_row, row_self, row_row, i32_add0, row_ne _ _ (show (8 : Nat) ≠ 12 by decide)] at *; simp [rf_test, row_ne _ _ (show (8 : Nat) ≠ 12 by decide), mS, mS_8, oI, mR, oI, mR, wd_w_row, row_self, row_row, k1, w2, zw2]; done))⟩
      · skip
        refine aw_rS (As := [.int k, .int 1, .int 11]) (S := [.ref (ad 14 0 0)]) (v := some (.int 1)) (o2 := o) (ct_within_in w2 zw2) (mm_fit_of cbX8_within (by decide) (by decide)) wq938 wq939 rfl rfl (Nat.le_of_ble_eq_true rfl) (by decide) (by decide) rfl dX8_test_19 ?_
        refine aw_if_ne (tgt := 29) (by decide) dX8_test_22 (fun _ => ?_) (fun z => absurd z (by decide))
        refine aw_aload_n (x := ad 14 0 0) rfl dX8_test_29 ?_
        refine aw_iload_n (x := (nI l)) rfl dX8_test_30 ?_
        refine aw_bipush (v := 6) (by decide) dX8_test_31 ?_
        refine aw_rV (As := [.int (nI l), .int 6]) (S := [.ref (ad 14 0 0)]) (v := some (.int (o.1 8 (20 * l + 7)))) (o2 := o) (ct_X8_of (l := l) (w := 6) (by omega) (by decide)) (mm_fit_of cbX8_of (by decide) (by decide)) wq969 cvX8_of wv14 rfl rfl rfl (Nat.le_of_ble_eq_true rfl) (by decide) (by decide) rfl dX8_test_33 ?_
        refine aw_iconst (v := (-1)) (by decide) dX8_test_36 ?_
        refine aw_icmp_ne (tgt := 44) (by decide) dX8_test_37 (fun b3 => ?_) (fun b3 => ?_)
        · skip
          refine aw_iconst (v := 0) (by decide) dX8_test_44 ?_
          refine aw_rV (As := [.int 0]) (S := []) (v := some (.int 0)) (o2 := (wd_w o 12 1 0)) (ct_refused_0) (mm_fit_of cbX8_refused (by decide) (by decide)) wq922 cvX8_refused wv14 rfl rfl rfl (Nat.le_of_ble_eq_true rfl) (by decide) (by decide) rfl dX8_test_45 ?_
          obtain ⟨o4, ho4⟩ : ∃ z, z = (wd_w o 12 1 0) := ⟨_, rfl⟩
          rw [← ho4]
          have Go4 : cg (o4.1 8) n m := by rw [ho4]; rw [wd_w_row, row_ne _ _ (by decide)]; exact G
          refine aw_if_eq (tgt := 53) (by decide) dX8_test_48 (fun _ => ?_) (fun z => absurd z (by decide))
          refine aw_aload_n (x := ad 14 0 0) rfl dX8_test_53 ?_
          refine aw_iload_n (x := (nI l)) rfl dX8_test_54 ?_
          refine aw_bipush (v := 6) (by decide) dX8_test_55 ?_
          refine aw_rV (As := [.int (nI l), .int 6]) (S := []) (v := some (.int (o4.1 8 (20 * l + 7)))) (o2 := o4) (ct_X8_of (l := l) (w := 6) (by omega) (by decide)) (mm_fit_of cbX8_of (by decide) (by decide)) wq969 cvX8_of wv14 rfl rfl rfl (Nat.le_of_ble_eq_true rfl) (by decide) (by decide) rfl dX8_test_57 ?_
          refine aw_iload_n (x := k) rfl dX8_test_60 ?_
          refine aw_icmp_gt (tgt := 68) (by decide) dX8_test_61 (fun b4 => ?_) (fun b4 => ?_)
          · skip
            refine aw_iconst (v := 0) (by decide) dX8_test_68 ?_
            exact aw_zret rfl (by decide) (by decide) (by decide) dX8_test_69 ⟨by (subst ho4; first | with_reducible rfl | (simp [rf_test, row_ne _ _ (show (8 : Nat) ≠ 12 by decide), mS, mS_8, oI, mR, oI, mR, wd_w_row, row_self, row_row, k1, w2, zw2, b3, b4]; done) | (simp_all [rf_test, row_ne _ _ (show (8 : Nat) ≠ 12 by decide), mS, mS_8, oI, mR, oI, mR, wd_w_row, row_self, row_row, k1, w2, zw2, b3, b4]; done) | (simp only [wd_w_row, row_self, row_row, i32_add0, row_ne _ _ (show (8 : Nat) ≠ 12 by decide)] at *; simp [rf_test, row_ne _ _ (show (8 : Nat) ≠ 12 by decide), mS, mS_8, oI, mR, oI, mR, wd_w_row, row_self, row_row, k1, w2, zw2, b3, b4]; done)), by (subst ho4; first | with_reducible rfl | (simp [rf_test, row_ne _ _ (show (8 : Nat) ≠ 12 by decide), mS, mS_8, oI, mR, oI, mR, wd_w_row, row_self, row_row, k1, w2, zw2, b3, b4]; done) | (simp_all [rf_test, row_ne _ _ (show (8 : Nat) ≠ 12 by decide), mS, mS_8, oI, mR, oI, mR, wd_w_row, row_self, row_row, k1, w2, zw2, b3, b4]; done) | (simp only [wd_w_row, row_self, row_row, i32_add0, row_ne _ _ (show (8 : Nat) ≠ 12 by decide)] at *; simp [rf_test, row_ne _ _ (show (8 : Nat) ≠ 12 by decide), mS, mS_8, oI, mR, oI, mR, wd_w_row, row_self, row_row, k1, w2, zw2, b3, b4]; done))⟩
          · skip
            refine aw_iconst (v := 1) (by decide) dX8_test_64 ?_
            refine aw_goto (tgt := 69) (by decide) dX8_test_65 ?_
            exact aw_zret rfl (by decide) (by decide) (by decide) dX8_test_69 ⟨by (subst ho4; first | with_reducible rfl | (simp [rf_test, row_ne _ _ (show (8 : Nat) ≠ 12 by decide), mS, mS_8, oI, mR, oI, mR, wd_w_row, row_self, row_row, k1, w2, zw2, b3, b4]; done) | (simp_all [rf_test, row_ne _ _ (show (8 : Nat) ≠ 12 by decide), mS, mS_8, oI, mR, oI, mR, wd_w_row, row_self, row_row, k1, w2, zw2, b3, b4]; done) | (simp only [wd_w_row, row_self, row_row, i32_add0, row_ne _ _ (show (8 : Nat) ≠ 12 by decide)] at *; simp [rf_test, row_ne _ _ (show (8 : Nat) ≠ 12 by decide), mS, mS_8, oI, mR, oI, mR, wd_w_row, row_self, row_row, k1, w2, zw2, b3, b4]; done)), by (subst ho4; first | with_reducible rfl | (simp [rf_test, row_ne _ _ (show (8 : Nat) ≠ 12 by decide), mS, mS_8, oI, mR, oI, mR, wd_w_row, row_self, row_row, k1, w2, zw2, b3, b4]; done) | (simp_all [rf_test, row_ne _ _ (show (8 : Nat) ≠ 12 by decide), mS, mS_8, oI, mR, oI, mR, wd_w_row, row_self, row_row, k1, w2, zw2, b3, b4]; done) | (simp only [wd_w_row, row_self, row_row, i32_add0, row_ne _ _ (show (8 : Nat) ≠ 12 by decide)] at *; simp [rf_test, row_ne _ _ (show (8 : Nat) ≠ 12 by decide), mS, mS_8, oI, mR, oI, mR, wd_w_row, row_self, row_row, k1, w2, zw2, b3, b4]; done))⟩
        · skip
          refine aw_iconst (v := 3) (by decide) dX8_test_40 ?_
          refine aw_goto (tgt := 45) (by decide) dX8_test_41 ?_
          refine aw_rV (As := [.int 3]) (S := []) (v := some (.int 1)) (o2 := (wd_w o 12 1 3)) (ct_refused_p (by decide)) (mm_fit_of cbX8_refused (by decide) (by decide)) wq922 cvX8_refused wv14 rfl rfl rfl (Nat.le_of_ble_eq_true rfl) (by decide) (by decide) rfl dX8_test_45 ?_
          obtain ⟨o5, ho5⟩ : ∃ z, z = (wd_w o 12 1 3) := ⟨_, rfl⟩
          rw [← ho5]
          have Go5 : cg (o5.1 8) n m := by rw [ho5]; rw [wd_w_row, row_ne _ _ (by decide)]; exact G
          refine aw_if_eq (tgt := 53) (by decide) dX8_test_48 (fun z => absurd z (by decide)) (fun _ => ?_)
          refine aw_iconst (v := 0) (by decide) dX8_test_51 ?_
          exact aw_zret rfl (by decide) (by decide) (by decide) dX8_test_52 ⟨by (subst ho5; first | with_reducible rfl | (simp [rf_test, row_ne _ _ (show (8 : Nat) ≠ 12 by decide), mS, mS_8, oI, mR, oI, mR, wd_w_row, row_self, row_row, k1, w2, zw2, b3]; done) | (simp_all [rf_test, row_ne _ _ (show (8 : Nat) ≠ 12 by decide), mS, mS_8, oI, mR, oI, mR, wd_w_row, row_self, row_row, k1, w2, zw2, b3]; done) | (simp only [wd_w_row, row_self, row_row, i32_add0, row_ne _ _ (show (8 : Nat) ≠ 12 by decide)] at *; simp [rf_test, row_ne _ _ (show (8 : Nat) ≠ 12 by decide), mS, mS_8, oI, mR, oI, mR, wd_w_row, row_self, row_row, k1, w2, zw2, b3]; done)), by (subst ho5; first | with_reducible rfl | (simp [rf_test, row_ne _ _ (show (8 : Nat) ≠ 12 by decide), mS, mS_8, oI, mR, oI, mR, wd_w_row, row_self, row_row, k1, w2, zw2, b3]; done) | (simp_all [rf_test, row_ne _ _ (show (8 : Nat) ≠ 12 by decide), mS, mS_8, oI, mR, oI, mR, wd_w_row, row_self, row_row, k1, w2, zw2, b3]; done) | (simp only [wd_w_row, row_self, row_row, i32_add0, row_ne _ _ (show (8 : Nat) ≠ 12 by decide)] at *; simp [rf_test, row_ne _ _ (show (8 : Nat) ≠ 12 by decide), mS, mS_8, oI, mR, oI, mR, wd_w_row, row_self, row_row, k1, w2, zw2, b3]; done))⟩
