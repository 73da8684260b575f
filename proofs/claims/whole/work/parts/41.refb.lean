/-! the reference: tests asked for; its digest -/
theorem ct_trf_n {ad : Nat → Nat → Nat → Nat} {o : wd_S} {n m : Nat} (G : cg (o.1 8) n m) {x y z : Int32} (hx : lk n x = none) : CT ad MX8_testRefusal [.ref (ad 14 0 0), .int x, .int y, .int z] o (RT (some (.int 1)) o) := by
  obtain ⟨g1, g2, g3, g4, g5, g6⟩ := id G
  refine CT.of (L := [some (.ref (ad 14 0 0)), some (.int x), some (.int y), some (.int z)]) rfl rfl (by decide) (Nat.le_of_ble_eq_true rfl) rfl ?_
  refine aw_aload_n (x := ad 14 0 0) rfl dX8_testRefusal_0 ?_
  refine aw_iload_n (x := x) rfl dX8_testRefusal_1 ?_
  refine aw_rV (As := [.int x]) (S := []) (v := some (.int 0)) (o2 := o) (ct_X8_isLoop_none G hx) (mm_fit_of cbX8_isLoop (by decide) (by decide)) wq941 cvX8_isLoop wv14 rfl rfl rfl (Nat.le_of_ble_eq_true rfl) (by decide) (by decide) rfl dX8_testRefusal_2 ?_
  refine aw_if_ne (tgt := 12) (by decide) dX8_testRefusal_5 (fun z => absurd z (by decide)) (fun _ => ?_)
  refine aw_iconst (v := 1) (by decide) dX8_testRefusal_8 ?_
  refine aw_goto (tgt := 33) (by decide) dX8_testRefusal_9 ?_
  exact aw_iret rfl (by decide) (by decide) dX8_testRefusal_33 ⟨by (first | with_reducible rfl | (simp [oI, mR, wd_w_row, row_self, row_row]; done) | (simp_all [oI, mR, wd_w_row, row_self, row_row]; done) | (simp only [wd_w_row, row_self, row_row, i32_add0] at *; simp [oI, mR, wd_w_row, row_self, row_row]; done)), by (first | with_reducible rfl | (simp [oI, mR, wd_w_row, row_self, row_row]; done) | (simp_all [oI, mR, wd_w_row, row_self, row_row]; done) | (simp only [wd_w_row, row_self, row_row, i32_add0] at *; simp [oI, mR, wd_w_row, row_self, row_row]; done))⟩
theorem ct_trf_b {ad : Nat → Nat → Nat → Nat} {o : wd_S} {n m : Nat} (G : cg (o.1 8) n m) {l : Nat} {x y z : Int32} (hx : lk n x = some l) (hb : y < 1 ∨ y > z ∨ z > 12) : CT ad MX8_testRefusal [.ref (ad 14 0 0), .int x, .int y, .int z] o (RT (some (.int 2)) o) := by
  obtain ⟨g1, g2, g3, g4, g5, g6⟩ := id G
  refine CT.of (L := [some (.ref (ad 14 0 0)), some (.int x), some (.int y), some (.int z)]) rfl rfl (by decide) (Nat.le_of_ble_eq_true rfl) rfl ?_
  refine aw_aload_n (x := ad 14 0 0) rfl dX8_testRefusal_0 ?_
  refine aw_iload_n (x := x) rfl dX8_testRefusal_1 ?_
  refine aw_rV (As := [.int x]) (S := []) (v := some (.int 1)) (o2 := o) (ct_X8_isLoop_some G hx) (mm_fit_of cbX8_isLoop (by decide) (by decide)) wq941 cvX8_isLoop wv14 rfl rfl rfl (Nat.le_of_ble_eq_true rfl) (by decide) (by decide) rfl dX8_testRefusal_2 ?_
  refine aw_if_ne (tgt := 12) (by decide) dX8_testRefusal_5 (fun _ => ?_) (fun z => absurd z (by decide))
  refine aw_iload_n (x := y) rfl dX8_testRefusal_12 ?_
  refine aw_iconst (v := 1) (by decide) dX8_testRefusal_13 ?_
  refine aw_icmp_lt (tgt := 28) (by decide) dX8_testRefusal_14 (fun b1 => ?_) (fun b1 => ?_)
  · skip
    refine aw_iconst (v := 2) (by decide) dX8_testRefusal_28 ?_
    refine aw_goto (tgt := 33) (by decide) dX8_testRefusal_29 ?_
    exact aw_iret rfl (by decide) (by decide) dX8_testRefusal_33 ⟨by (first | with_reducible rfl | (simp [oI, mR, wd_w_row, row_self, row_row, b1]; done) | (simp_all [oI, mR, wd_w_row, row_self, row_row, b1]; done) | (simp only [wd_w_row, row_self, row_row, i32_add0] at *; simp [oI, mR, wd_w_row, row_self, row_row, b1]; done)), by (first | with_reducible rfl | (simp [oI, mR, wd_w_row, row_self, row_row, b1]; done) | (simp_all [oI, mR, wd_w_row, row_self, row_row, b1]; done) | (simp only [wd_w_row, row_self, row_row, i32_add0] at *; simp [oI, mR, wd_w_row, row_self, row_row, b1]; done))⟩
  · skip
    refine aw_iload_n (x := y) rfl dX8_testRefusal_17 ?_
    refine aw_iload_n (x := z) rfl dX8_testRefusal_18 ?_
    refine aw_icmp_gt (tgt := 28) (by decide) dX8_testRefusal_19 (fun b2 => ?_) (fun b2 => ?_)
    · skip
      refine aw_iconst (v := 2) (by decide) dX8_testRefusal_28 ?_
      refine aw_goto (tgt := 33) (by decide) dX8_testRefusal_29 ?_
      exact aw_iret rfl (by decide) (by decide) dX8_testRefusal_33 ⟨by (first | with_reducible rfl | (simp [oI, mR, wd_w_row, row_self, row_row, b1, b2]; done) | (simp_all [oI, mR, wd_w_row, row_self, row_row, b1, b2]; done) | (simp only [wd_w_row, row_self, row_row, i32_add0] at *; simp [oI, mR, wd_w_row, row_self, row_row, b1, b2]; done)), by (first | with_reducible rfl | (simp [oI, mR, wd_w_row, row_self, row_row, b1, b2]; done) | (simp_all [oI, mR, wd_w_row, row_self, row_row, b1, b2]; done) | (simp only [wd_w_row, row_self, row_row, i32_add0] at *; simp [oI, mR, wd_w_row, row_self, row_row, b1, b2]; done))⟩
    · skip
      refine aw_iload_n (x := z) rfl dX8_testRefusal_22 ?_
      refine aw_bipush (v := 12) (by decide) dX8_testRefusal_23 ?_
      refine aw_icmp_le (tgt := 32) (by decide) dX8_testRefusal_25 (fun z => absurd z (by rcases hb with h | h | h; exact absurd h b1; exact absurd h b2; exact Int32.not_le.mpr h)) (fun _ => ?_)
      refine aw_iconst (v := 2) (by decide) dX8_testRefusal_28 ?_
      refine aw_goto (tgt := 33) (by decide) dX8_testRefusal_29 ?_
      exact aw_iret rfl (by decide) (by decide) dX8_testRefusal_33 ⟨by (first | with_reducible rfl | (simp [oI, mR, wd_w_row, row_self, row_row, b1, b2]; done) | (simp_all [oI, mR, wd_w_row, row_self, row_row, b1, b2]; done) | (simp only [wd_w_row, row_self, row_row, i32_add0] at *; simp [oI, mR, wd_w_row, row_self, row_row, b1, b2]; done)), by (first | with_reducible rfl | (simp [oI, mR, wd_w_row, row_self, row_row, b1, b2]; done) | (simp_all [oI, mR, wd_w_row, row_self, row_row, b1, b2]; done) | (simp only [wd_w_row, row_self, row_row, i32_add0] at *; simp [oI, mR, wd_w_row, row_self, row_row, b1, b2]; done))⟩
theorem ct_trf_ok {ad : Nat → Nat → Nat → Nat} {o : wd_S} {n m : Nat} (G : cg (o.1 8) n m) {l a b : Nat} {x : Int32} (hx : lk n x = some l) (ha : 1 ≤ a) (hab : a ≤ b) (hb : b ≤ 12) : CT ad MX8_testRefusal [.ref (ad 14 0 0), .int x, .int (nI a), .int (nI b)] o (RT (some (.int 0)) o) := by
  obtain ⟨g1, g2, g3, g4, g5, g6⟩ := id G
  refine CT.of (L := [some (.ref (ad 14 0 0)), some (.int x), some (.int (nI a)), some (.int (nI b))]) rfl rfl (by decide) (Nat.le_of_ble_eq_true rfl) rfl ?_
  refine aw_aload_n (x := ad 14 0 0) rfl dX8_testRefusal_0 ?_
  refine aw_iload_n (x := x) rfl dX8_testRefusal_1 ?_
  refine aw_rV (As := [.int x]) (S := []) (v := some (.int 1)) (o2 := o) (ct_X8_isLoop_some G hx) (mm_fit_of cbX8_isLoop (by decide) (by decide)) wq941 cvX8_isLoop wv14 rfl rfl rfl (Nat.le_of_ble_eq_true rfl) (by decide) (by decide) rfl dX8_testRefusal_2 ?_
  refine aw_if_ne (tgt := 12) (by decide) dX8_testRefusal_5 (fun _ => ?_) (fun z => absurd z (by decide))
  refine aw_iload_n (x := (nI a)) rfl dX8_testRefusal_12 ?_
  refine aw_iconst (v := 1) (by decide) dX8_testRefusal_13 ?_
  refine aw_icmp_lt (tgt := 28) (by decide) dX8_testRefusal_14 (fun z => absurd z (nI_nlt (b := 1) ha (by omega))) (fun _ => ?_)
  refine aw_iload_n (x := (nI a)) rfl dX8_testRefusal_17 ?_
  refine aw_iload_n (x := (nI b)) rfl dX8_testRefusal_18 ?_
  refine aw_icmp_gt (tgt := 28) (by decide) dX8_testRefusal_19 (fun z => absurd z (nI_nlt hab (by omega))) (fun _ => ?_)
  refine aw_iload_n (x := (nI b)) rfl dX8_testRefusal_22 ?_
  refine aw_bipush (v := 12) (by decide) dX8_testRefusal_23 ?_
  refine aw_icmp_le (tgt := 32) (by decide) dX8_testRefusal_25 (fun _ => ?_) (fun z => absurd (nI_le (b := 12) hb (by decide)) z)
  refine aw_iconst (v := 0) (by decide) dX8_testRefusal_32 ?_
  exact aw_iret rfl (by decide) (by decide) dX8_testRefusal_33 ⟨by (first | with_reducible rfl | (simp [oI, mR, wd_w_row, row_self, row_row]; done) | (simp_all [oI, mR, wd_w_row, row_self, row_row]; done) | (simp only [wd_w_row, row_self, row_row, i32_add0] at *; simp [oI, mR, wd_w_row, row_self, row_row]; done)), by (first | with_reducible rfl | (simp [oI, mR, wd_w_row, row_self, row_row]; done) | (simp_all [oI, mR, wd_w_row, row_self, row_row]; done) | (simp only [wd_w_row, row_self, row_row, i32_add0] at *; simp [oI, mR, wd_w_row, row_self, row_row]; done))⟩
theorem rt_tcost_ok {ad : Nat → Nat → Nat → Nat} {o : wd_S} {n m c : Nat} (V : mv o n m c) {l a b : Nat} (hx : lk n (nI l) = some l) (ha : 1 ≤ a) (hab : a ≤ b) (hb : b ≤ 12) : CT ad MX8_testCost [.ref (ad 14 0 0), .int (nI l), .int (nI a), .int (nI b)] o (OT (oI ((cs_plan (cs_rk (o.1 8) l) 1 12 (o.1 10, o.1 11)).1 (13 * a + b)) (wt3 (wd_w o 12 1 0) (cs_plan (cs_rk (o.1 8) l) 1 12 (o.1 10, o.1 11))))) := by
  obtain ⟨G, hk, hc⟩ := id V
  obtain ⟨g1, g2, g3, g4, g5, g6⟩ := id G
  have hl := (lk_some hx).2
  refine CT.of (L := [some (.ref (ad 14 0 0)), some (.int (nI l)), some (.int (nI a)), some (.int (nI b))]) rfl rfl (by decide) (Nat.le_of_ble_eq_true rfl) rfl ?_
  refine aw_aload_n (x := ad 14 0 0) rfl dX8_testCost_0 ?_
  refine aw_aload_n (x := ad 14 0 0) rfl dX8_testCost_1 ?_
  refine aw_iload_n (x := (nI l)) rfl dX8_testCost_2 ?_
  refine aw_iload_n (x := (nI a)) rfl dX8_testCost_3 ?_
  refine aw_iload_n (x := (nI b)) rfl dX8_testCost_4 ?_
  refine aw_rV (As := [.int (nI l), .int (nI a), .int (nI b)]) (S := [.ref (ad 14 0 0)]) (v := some (.int 0)) (o2 := o) (ct_trf_ok G hx ha hab hb) (mm_fit_of cbX8_testRefusal (by decide) (by decide)) wq1159 cvX8_testRefusal wv14 rfl rfl rfl (Nat.le_of_ble_eq_true rfl) (by decide) (by decide) rfl dX8_testCost_5 ?_
  refine aw_rV (As := [.int 0]) (S := []) (v := some (.int 0)) (o2 := (wd_w o 12 1 0)) (ct_refused_0) (mm_fit_of cbX8_refused (by decide) (by decide)) wq922 cvX8_refused wv14 rfl rfl rfl (Nat.le_of_ble_eq_true rfl) (by decide) (by decide) rfl dX8_testCost_8 ?_
  obtain ⟨o1, ho1⟩ : ∃ z, z = (wd_w o 12 1 0) := ⟨_, rfl⟩
  rw [← ho1]
  have Go1 : cg (o1.1 8) n m := by rw [ho1]; rw [wd_w_row, row_ne _ _ (by decide)]; exact G
  refine aw_if_eq (tgt := 16) (by decide) dX8_testCost_11 (fun _ => ?_) (fun z => absurd z (by decide))
  refine aw_aload_n (x := ad 14 0 0) rfl dX8_testCost_16 ?_
  refine aw_iload_n (x := (nI l)) rfl dX8_testCost_17 ?_
  refine aw_rV (As := [.int (nI l)]) (S := []) (v := none) (o2 := (wt3 o1 (cs_plan (cs_rk (o1.1 8) l) 1 12 (o1.1 10, o1.1 11)))) (ct_X8_lays (by omega)) (mm_fit_of cbX8_laysTests (by decide) (by decide)) wq1163 cvX8_laysTests wv14 rfl rfl rfl (Nat.le_of_ble_eq_true rfl) (by decide) (by decide) rfl dX8_testCost_18 ?_
  rw [show (wt3 o1 (cs_plan (cs_rk (o1.1 8) l) 1 12 (o1.1 10, o1.1 11))) = (wt3 (wd_w o 12 1 0) (cs_plan (cs_rk (o.1 8) l) 1 12 (o.1 10, o.1 11))) by subst ho1; rfl]
  refine aw_aload_n (x := ad 14 0 0) rfl dX8_testCost_21 ?_
  refine aw_getr (q := (15, 0, 2)) wv14 rfl flX8_16 rfl rfl dX8_testCost_22 ?_
  refine aw_bipush (v := 13) (by decide) dX8_testCost_25 ?_
  refine aw_iload_n (x := (nI a)) rfl dX8_testCost_27 ?_
  refine aw_imulz (z := nI (13 * a)) (nI_mul 13 a) dX8_testCost_28 ?_
  refine aw_iload_n (x := (nI b)) rfl dX8_testCost_29 ?_
  refine aw_iaddz (z := nI (13 * a + b)) (nI_add (13 * a) b) dX8_testCost_30 ?_
  refine aw_ild (x := 13 * a + b) (q := (10, 13 * a + b)) (y := (wt3 (wd_w o 12 1 0) (cs_plan (cs_rk (o.1 8) l) 1 12 (o.1 10, o.1 11))).1 10 (13 * a + b)) rfl (wv15 (by decide)) (wi15 (by show _ < 169; omega)) rfl (by show _ < 169; omega) rfl dX8_testCost_31 ?_
  exact aw_iret rfl (by decide) (by decide) dX8_testCost_32 ⟨by subst ho1; rw [show (wt3 (wd_w o 12 1 0) (cs_plan (cs_rk (o.1 8) l) 1 12 (o.1 10, o.1 11))).1 10 = _ from wt3_6 _ _]; rfl, by subst ho1; rfl⟩
theorem rt_tcost_none {ad : Nat → Nat → Nat → Nat} {o : wd_S} {n m c : Nat} (V : mv o n m c) {x y z : Int32} (hx : lk n x = none) : CT ad MX8_testCost [.ref (ad 14 0 0), .int x, .int y, .int z] o (OT (mR 1 o)) := by
  obtain ⟨G, hk, hc⟩ := id V
  obtain ⟨g1, g2, g3, g4, g5, g6⟩ := id G
  refine CT.of (L := [some (.ref (ad 14 0 0)), some (.int x), some (.int y), some (.int z)]) rfl rfl (by decide) (Nat.le_of_ble_eq_true rfl) rfl ?_
  refine aw_aload_n (x := ad 14 0 0) rfl dX8_testCost_0 ?_
  refine aw_aload_n (x := ad 14 0 0) rfl dX8_testCost_1 ?_
  refine aw_iload_n (x := x) rfl dX8_testCost_2 ?_
  refine aw_iload_n (x := y) rfl dX8_testCost_3 ?_
  refine aw_iload_n (x := z) rfl dX8_testCost_4 ?_
  refine aw_rV (As := [.int x, .int y, .int z]) (S := [.ref (ad 14 0 0)]) (v := some (.int 1)) (o2 := o) (ct_trf_n G hx) (mm_fit_of cbX8_testRefusal (by decide) (by decide)) wq1159 cvX8_testRefusal wv14 rfl rfl rfl (Nat.le_of_ble_eq_true rfl) (by decide) (by decide) rfl dX8_testCost_5 ?_
  refine aw_rV (As := [.int 1]) (S := []) (v := some (.int 1)) (o2 := (wd_w o 12 1 1)) (ct_refused_p (by decide)) (mm_fit_of cbX8_refused (by decide) (by decide)) wq922 cvX8_refused wv14 rfl rfl rfl (Nat.le_of_ble_eq_true rfl) (by decide) (by decide) rfl dX8_testCost_8 ?_
  obtain ⟨o1, ho1⟩ : ∃ z, z = (wd_w o 12 1 1) := ⟨_, rfl⟩
  rw [← ho1]
  have Go1 : cg (o1.1 8) n m := by rw [ho1]; rw [wd_w_row, row_ne _ _ (by decide)]; exact G
  refine aw_if_eq (tgt := 16) (by decide) dX8_testCost_11 (fun z => absurd z (by decide)) (fun _ => ?_)
  refine aw_iconst (v := 0) (by decide) dX8_testCost_14 ?_
  exact aw_iret rfl (by decide) (by decide) dX8_testCost_15 ⟨by (subst ho1; first | with_reducible rfl | (simp [mS, mS_8, oI, mR, oI, mR, wd_w_row, row_self, row_row]; done) | (simp_all [mS, mS_8, oI, mR, oI, mR, wd_w_row, row_self, row_row]; done) | (simp only [wd_w_row, row_self, row_row, i32_add0, row_ne _ _ (show (8 : Nat) ≠ 12 by decide)] at *; simp [mS, mS_8, oI, mR, oI, mR, wd_w_row, row_self, row_row]; done)), by (subst ho1; first | with_reducible rfl | (simp [mS, mS_8, oI, mR, oI, mR, wd_w_row, row_self, row_row]; done) | (simp_all [mS, mS_8, oI, mR, oI, mR, wd_w_row, row_self, row_row]; done) | (simp only [wd_w_row, row_self, row_row, i32_add0, row_ne _ _ (show (8 : Nat) ≠ 12 by decide)] at *; simp [mS, mS_8, oI, mR, oI, mR, wd_w_row, row_self, row_row]; done))⟩
theorem rt_tcost_bad {ad : Nat → Nat → Nat → Nat} {o : wd_S} {n m c : Nat} (V : mv o n m c) {l : Nat} {x y z : Int32} (hx : lk n x = some l) (hb : y < 1 ∨ y > z ∨ z > 12) : CT ad MX8_testCost [.ref (ad 14 0 0), .int x, .int y, .int z] o (OT (mR 2 o)) := by
  obtain ⟨G, hk, hc⟩ := id V
  obtain ⟨g1, g2, g3, g4, g5, g6⟩ := id G
  refine CT.of (L := [some (.ref (ad 14 0 0)), some (.int x), some (.int y), some (.int z)]) rfl rfl (by decide) (Nat.le_of_ble_eq_true rfl) rfl ?_
  refine aw_aload_n (x := ad 14 0 0) rfl dX8_testCost_0 ?_
  refine aw_aload_n (x := ad 14 0 0) rfl dX8_testCost_1 ?_
  refine aw_iload_n (x := x) rfl dX8_testCost_2 ?_
  refine aw_iload_n (x := y) rfl dX8_testCost_3 ?_
  refine aw_iload_n (x := z) rfl dX8_testCost_4 ?_
  refine aw_rV (As := [.int x, .int y, .int z]) (S := [.ref (ad 14 0 0)]) (v := some (.int 2)) (o2 := o) (ct_trf_b G hx hb) (mm_fit_of cbX8_testRefusal (by decide) (by decide)) wq1159 cvX8_testRefusal wv14 rfl rfl rfl (Nat.le_of_ble_eq_true rfl) (by decide) (by decide) rfl dX8_testCost_5 ?_
  refine aw_rV (As := [.int 2]) (S := []) (v := some (.int 1)) (o2 := (wd_w o 12 1 2)) (ct_refused_p (by decide)) (mm_fit_of cbX8_refused (by decide) (by decide)) wq922 cvX8_refused wv14 rfl rfl rfl (Nat.le_of_ble_eq_true rfl) (by decide) (by decide) rfl dX8_testCost_8 ?_
  obtain ⟨o1, ho1⟩ : ∃ z, z = (wd_w o 12 1 2) := ⟨_, rfl⟩
  rw [← ho1]
  have Go1 : cg (o1.1 8) n m := by rw [ho1]; rw [wd_w_row, row_ne _ _ (by decide)]; exact G
  refine aw_if_eq (tgt := 16) (by decide) dX8_testCost_11 (fun z => absurd z (by decide)) (fun _ => ?_)
  refine aw_iconst (v := 0) (by decide) dX8_testCost_14 ?_
  exact aw_iret rfl (by decide) (by decide) dX8_testCost_15 ⟨by (subst ho1; first | with_reducible rfl | (simp [mS, mS_8, oI, mR, oI, mR, wd_w_row, row_self, row_row]; done) | (simp_all [mS, mS_8, oI, mR, oI, mR, wd_w_row, row_self, row_row]; done) | (simp only [wd_w_row, row_self, row_row, i32_add0, row_ne _ _ (show (8 : Nat) ≠ 12 by decide)] at *; simp [mS, mS_8, oI, mR, oI, mR, wd_w_row, row_self, row_row]; done)), by (subst ho1; first | with_reducible rfl | (simp [mS, mS_8, oI, mR, oI, mR, wd_w_row, row_self, row_row]; done) | (simp_all [mS, mS_8, oI, mR, oI, mR, wd_w_row, row_self, row_row]; done) | (simp only [wd_w_row, row_self, row_row, i32_add0, row_ne _ _ (show (8 : Nat) ≠ 12 by decide)] at *; simp [mS, mS_8, oI, mR, oI, mR, wd_w_row, row_self, row_row]; done))⟩
theorem rt_tbtest_ok {ad : Nat → Nat → Nat → Nat} {o : wd_S} {n m c : Nat} (V : mv o n m c) {l a b : Nat} (hx : lk n (nI l) = some l) (ha : 1 ≤ a) (hab : a ≤ b) (hb : b ≤ 12) : CT ad MX8_bestTest [.ref (ad 14 0 0), .int (nI l), .int (nI a), .int (nI b)] o (OT (oI ((cs_plan (cs_rk (o.1 8) l) 1 12 (o.1 10, o.1 11)).2 (13 * a + b)) (wt3 (wd_w o 12 1 0) (cs_plan (cs_rk (o.1 8) l) 1 12 (o.1 10, o.1 11))))) := by
  obtain ⟨G, hk, hc⟩ := id V
  obtain ⟨g1, g2, g3, g4, g5, g6⟩ := id G
  have hl := (lk_some hx).2
  refine CT.of (L := [some (.ref (ad 14 0 0)), some (.int (nI l)), some (.int (nI a)), some (.int (nI b))]) rfl rfl (by decide) (Nat.le_of_ble_eq_true rfl) rfl ?_
  refine aw_aload_n (x := ad 14 0 0) rfl dX8_bestTest_0 ?_
  refine aw_aload_n (x := ad 14 0 0) rfl dX8_bestTest_1 ?_
  refine aw_iload_n (x := (nI l)) rfl dX8_bestTest_2 ?_
  refine aw_iload_n (x := (nI a)) rfl dX8_bestTest_3 ?_
  refine aw_iload_n (x := (nI b)) rfl dX8_bestTest_4 ?_
  refine aw_rV (As := [.int (nI l), .int (nI a), .int (nI b)]) (S := [.ref (ad 14 0 0)]) (v := some (.int 0)) (o2 := o) (ct_trf_ok G hx ha hab hb) (mm_fit_of cbX8_testRefusal (by decide) (by decide)) wq1159 cvX8_testRefusal wv14 rfl rfl rfl (Nat.le_of_ble_eq_true rfl) (by decide) (by decide) rfl dX8_bestTest_5 ?_
  refine aw_rV (As := [.int 0]) (S := []) (v := some (.int 0)) (o2 := (wd_w o 12 1 0)) (ct_refused_0) (mm_fit_of cbX8_refused (by decide) (by decide)) wq922 cvX8_refused wv14 rfl rfl rfl (Nat.le_of_ble_eq_true rfl) (by decide) (by decide) rfl dX8_bestTest_8 ?_
  obtain ⟨o1, ho1⟩ : ∃ z, z = (wd_w o 12 1 0) := ⟨_, rfl⟩
  rw [← ho1]
  have Go1 : cg (o1.1 8) n m := by rw [ho1]; rw [wd_w_row, row_ne _ _ (by decide)]; exact G
  refine aw_if_eq (tgt := 16) (by decide) dX8_bestTest_11 (fun _ => ?_) (fun z => absurd z (by decide))
  refine aw_aload_n (x := ad 14 0 0) rfl dX8_bestTest_16 ?_
  refine aw_iload_n (x := (nI l)) rfl dX8_bestTest_17 ?_
  refine aw_rV (As := [.int (nI l)]) (S := []) (v := none) (o2 := (wt3 o1 (cs_plan (cs_rk (o1.1 8) l) 1 12 (o1.1 10, o1.1 11)))) (ct_X8_lays (by omega)) (mm_fit_of cbX8_laysTests (by decide) (by decide)) wq1163 cvX8_laysTests wv14 rfl rfl rfl (Nat.le_of_ble_eq_true rfl) (by decide) (by decide) rfl dX8_bestTest_18 ?_
  rw [show (wt3 o1 (cs_plan (cs_rk (o1.1 8) l) 1 12 (o1.1 10, o1.1 11))) = (wt3 (wd_w o 12 1 0) (cs_plan (cs_rk (o.1 8) l) 1 12 (o.1 10, o.1 11))) by subst ho1; rfl]
  refine aw_aload_n (x := ad 14 0 0) rfl dX8_bestTest_21 ?_
  refine aw_getr (q := (15, 0, 3)) wv14 rfl flX8_19 rfl rfl dX8_bestTest_22 ?_
  refine aw_bipush (v := 13) (by decide) dX8_bestTest_25 ?_
  refine aw_iload_n (x := (nI a)) rfl dX8_bestTest_27 ?_
  refine aw_imulz (z := nI (13 * a)) (nI_mul 13 a) dX8_bestTest_28 ?_
  refine aw_iload_n (x := (nI b)) rfl dX8_bestTest_29 ?_
  refine aw_iaddz (z := nI (13 * a + b)) (nI_add (13 * a) b) dX8_bestTest_30 ?_
  refine aw_ild (x := 13 * a + b) (q := (11, 13 * a + b)) (y := (wt3 (wd_w o 12 1 0) (cs_plan (cs_rk (o.1 8) l) 1 12 (o.1 10, o.1 11))).1 11 (13 * a + b)) rfl (wv15 (by decide)) (wi15 (by show _ < 169; omega)) rfl (by show _ < 169; omega) rfl dX8_bestTest_31 ?_
  exact aw_iret rfl (by decide) (by decide) dX8_bestTest_32 ⟨by subst ho1; rw [show (wt3 (wd_w o 12 1 0) (cs_plan (cs_rk (o.1 8) l) 1 12 (o.1 10, o.1 11))).1 11 = _ from wt3_7 _ _]; rfl, by subst ho1; rfl⟩
theorem rt_tbtest_none {ad : Nat → Nat → Nat → Nat} {o : wd_S} {n m c : Nat} (V : mv o n m c) {x y z : Int32} (hx : lk n x = none) : CT ad MX8_bestTest [.ref (ad 14 0 0), .int x, .int y, .int z] o (OT (mR 1 o)) := by
  obtain ⟨G, hk, hc⟩ := id V
  obtain ⟨g1, g2, g3, g4, g5, g6⟩ := id G
  refine CT.of (L := [some (.ref (ad 14 0 0)), some (.int x), some (.int y), some (.int z)]) rfl rfl (by decide) (Nat.le_of_ble_eq_true rfl) rfl ?_
  refine aw_aload_n (x := ad 14 0 0) rfl dX8_bestTest_0 ?_
  refine aw_aload_n (x := ad 14 0 0) rfl dX8_bestTest_1 ?_
  refine aw_iload_n (x := x) rfl dX8_bestTest_2 ?_
  refine aw_iload_n (x := y) rfl dX8_bestTest_3 ?_
  refine aw_iload_n (x := z) rfl dX8_bestTest_4 ?_
  refine aw_rV (As := [.int x, .int y, .int z]) (S := [.ref (ad 14 0 0)]) (v := some (.int 1)) (o2 := o) (ct_trf_n G hx) (mm_fit_of cbX8_testRefusal (by decide) (by decide)) wq1159 cvX8_testRefusal wv14 rfl rfl rfl (Nat.le_of_ble_eq_true rfl) (by decide) (by decide) rfl dX8_bestTest_5 ?_
  refine aw_rV (As := [.int 1]) (S := []) (v := some (.int 1)) (o2 := (wd_w o 12 1 1)) (ct_refused_p (by decide)) (mm_fit_of cbX8_refused (by decide) (by decide)) wq922 cvX8_refused wv14 rfl rfl rfl (Nat.le_of_ble_eq_true rfl) (by decide) (by decide) rfl dX8_bestTest_8 ?_
  obtain ⟨o1, ho1⟩ : ∃ z, z = (wd_w o 12 1 1) := ⟨_, rfl⟩
  rw [← ho1]
  have Go1 : cg (o1.1 8) n m := by rw [ho1]; rw [wd_w_row, row_ne _ _ (by decide)]; exact G
  refine aw_if_eq (tgt := 16) (by decide) dX8_bestTest_11 (fun z => absurd z (by decide)) (fun _ => ?_)
  refine aw_iconst (v := 0) (by decide) dX8_bestTest_14 ?_
  exact aw_iret rfl (by decide) (by decide) dX8_bestTest_15 ⟨by (subst ho1; first | with_reducible rfl | (simp [mS, mS_8, oI, mR, oI, mR, wd_w_row, row_self, row_row]; done) | (simp_all [mS, mS_8, oI, mR, oI, mR, wd_w_row, row_self, row_row]; done) | (simp only [wd_w_row, row_self, row_row, i32_add0, row_ne _ _ (show (8 : Nat) ≠ 12 by decide)] at *; simp [mS, mS_8, oI, mR, oI, mR, wd_w_row, row_self, row_row]; done)), by (subst ho1; first | with_reducible rfl | (simp [mS, mS_8, oI, mR, oI, mR, wd_w_row, row_self, row_row]; done) | (simp_all [mS, mS_8, oI, mR, oI, mR, wd_w_row, row_self, row_row]; done) | (simp only [wd_w_row, row_self, row_row, i32_add0, row_ne _ _ (show (8 : Nat) ≠ 12 by decide)] at *; simp [mS, mS_8, oI, mR, oI, mR, wd_w_row, row_self, row_row]; done))⟩
theorem rt_tbtest_bad {ad : Nat → Nat → Nat → Nat} {o : wd_S} {n m c : Nat} (V : mv o n m c) {l : Nat} {x y z : Int32} (hx : lk n x = some l) (hb : y < 1 ∨ y > z ∨ z > 12) : CT ad MX8_bestTest [.ref (ad 14 0 0), .int x, .int y, .int z] o (OT (mR 2 o)) := by
  obtain ⟨G, hk, hc⟩ := id V
  obtain ⟨g1, g2, g3, g4, g5, g6⟩ := id G
  refine CT.of (L := [some (.ref (ad 14 0 0)), some (.int x), some (.int y), some (.int z)]) rfl rfl (by decide) (Nat.le_of_ble_eq_true rfl) rfl ?_
  refine aw_aload_n (x := ad 14 0 0) rfl dX8_bestTest_0 ?_
  refine aw_aload_n (x := ad 14 0 0) rfl dX8_bestTest_1 ?_
  refine aw_iload_n (x := x) rfl dX8_bestTest_2 ?_
  refine aw_iload_n (x := y) rfl dX8_bestTest_3 ?_
  refine aw_iload_n (x := z) rfl dX8_bestTest_4 ?_
  refine aw_rV (As := [.int x, .int y, .int z]) (S := [.ref (ad 14 0 0)]) (v := some (.int 2)) (o2 := o) (ct_trf_b G hx hb) (mm_fit_of cbX8_testRefusal (by decide) (by decide)) wq1159 cvX8_testRefusal wv14 rfl rfl rfl (Nat.le_of_ble_eq_true rfl) (by decide) (by decide) rfl dX8_bestTest_5 ?_
  refine aw_rV (As := [.int 2]) (S := []) (v := some (.int 1)) (o2 := (wd_w o 12 1 2)) (ct_refused_p (by decide)) (mm_fit_of cbX8_refused (by decide) (by decide)) wq922 cvX8_refused wv14 rfl rfl rfl (Nat.le_of_ble_eq_true rfl) (by decide) (by decide) rfl dX8_bestTest_8 ?_
  obtain ⟨o1, ho1⟩ : ∃ z, z = (wd_w o 12 1 2) := ⟨_, rfl⟩
  rw [← ho1]
  have Go1 : cg (o1.1 8) n m := by rw [ho1]; rw [wd_w_row, row_ne _ _ (by decide)]; exact G
  refine aw_if_eq (tgt := 16) (by decide) dX8_bestTest_11 (fun z => absurd z (by decide)) (fun _ => ?_)
  refine aw_iconst (v := 0) (by decide) dX8_bestTest_14 ?_
  exact aw_iret rfl (by decide) (by decide) dX8_bestTest_15 ⟨by (subst ho1; first | with_reducible rfl | (simp [mS, mS_8, oI, mR, oI, mR, wd_w_row, row_self, row_row]; done) | (simp_all [mS, mS_8, oI, mR, oI, mR, wd_w_row, row_self, row_row]; done) | (simp only [wd_w_row, row_self, row_row, i32_add0, row_ne _ _ (show (8 : Nat) ≠ 12 by decide)] at *; simp [mS, mS_8, oI, mR, oI, mR, wd_w_row, row_self, row_row]; done)), by (subst ho1; first | with_reducible rfl | (simp [mS, mS_8, oI, mR, oI, mR, wd_w_row, row_self, row_row]; done) | (simp_all [mS, mS_8, oI, mR, oI, mR, wd_w_row, row_self, row_row]; done) | (simp only [wd_w_row, row_self, row_row, i32_add0, row_ne _ _ (show (8 : Nat) ≠ 12 by decide)] at *; simp [mS, mS_8, oI, mR, oI, mR, wd_w_row, row_self, row_row]; done))⟩
theorem lp_need {ad : Nat → Nat → Nat → Nat} {o : wd_S} {l : Nat} (hl : l < 5) (hD : ∀ a b, 1 ≤ a → a < b → b ≤ 12 → ∃ j, a ≤ j ∧ j < b ∧ o.1 11 (13 * a + b) = nI j) : ∀ (k i a b : Nat), 1 ≤ a → a ≤ b → b ≤ 12 → b - a ≤ k → AW ad MX8_testsNeeded 53 [some (.ref (ad 14 0 0)), some (.int (nI l)), none, some (.int (nI a)), some (.int (nI b)), some (.int (nI i)), none] [] o 0 0 (RT (some (.int (nI (cs_find (o.1 11) (o.1 8 (20 * l + 7)) k i a b)))) o) := by
  intro k
  induction k with
  | zero =>
    intro i a b ha hab hb hk
    refine aw_iload_n (x := (nI a)) rfl dX8_testsNeeded_53 ?_
    refine aw_iload (x := (nI b)) rfl dX8_testsNeeded_54 ?_
    refine aw_icmp_ge (tgt := 103) (by decide) dX8_testsNeeded_56 (fun _ => ?_) (fun z => absurd (nI_le (by omega) (by omega)) z)
    refine aw_iload (x := (nI i)) rfl dX8_testsNeeded_103 ?_
    exact aw_iret rfl (by decide) (by decide) dX8_testsNeeded_105 ⟨rfl, rfl⟩
  | succ k ih =>
    intro i a b ha hab hb hk
    by_cases h : a < b
    · obtain ⟨j, hj1, hj2, ej⟩ := hD a b ha h hb
      have c1 : ¬ nI a ≥ nI b := nI_ge h (by omega)
      have c2 : ¬ nI j < nI a := nI_nlt hj1 (by omega)
      have c3 : nI j < nI b := nI_lt hj2 (by omega)
      have c4 : (nI j).toNatClampNeg = j := nI_clamp (by omega)
      refine aw_iload_n (x := (nI a)) rfl dX8_testsNeeded_53 ?_
      refine aw_iload (x := (nI b)) rfl dX8_testsNeeded_54 ?_
      refine aw_icmp_ge (tgt := 103) (by decide) dX8_testsNeeded_56 (fun z => absurd z c1) (fun _ => ?_)
      refine aw_aload_n (x := ad 14 0 0) rfl dX8_testsNeeded_59 ?_
      refine aw_getr (q := (15, 0, 3)) wv14 rfl flX8_19 rfl rfl dX8_testsNeeded_60 ?_
      refine aw_bipush (v := 13) (by decide) dX8_testsNeeded_63 ?_
      refine aw_iload_n (x := (nI a)) rfl dX8_testsNeeded_65 ?_
      refine aw_imulz (z := nI (13 * a)) (nI_mul 13 a) dX8_testsNeeded_66 ?_
      refine aw_iload (x := (nI b)) rfl dX8_testsNeeded_67 ?_
      refine aw_iaddz (z := nI (13 * a + b)) (nI_add (13 * a) b) dX8_testsNeeded_69 ?_
      refine aw_ild (x := 13 * a + b) (q := (11, 13 * a + b)) (y := nI j) rfl (wv15 (by decide)) (wi15 (by show _ < 169; omega)) ej (by show _ < 169; omega) rfl dX8_testsNeeded_70 ?_
      refine aw_istore (L2 := [some (.ref (ad 14 0 0)), some (.int (nI l)), none, some (.int (nI a)), some (.int (nI b)), some (.int (nI i)), some (.int (nI j))]) (by decide) rfl rfl dX8_testsNeeded_71 ?_
      refine aw_iinc (n := 1) (x := (nI i)) (v := nI (i + 1)) (L2 := [some (.ref (ad 14 0 0)), some (.int (nI l)), none, some (.int (nI a)), some (.int (nI b)), some (.int (nI (i + 1))), some (.int (nI j))]) rfl (nI_1 i) (by decide) rfl rfl dX8_testsNeeded_73 ?_
      refine aw_aload_n (x := ad 14 0 0) rfl dX8_testsNeeded_76 ?_
      refine aw_iload_n (x := (nI l)) rfl dX8_testsNeeded_77 ?_
      refine aw_bipush (v := 6) (by decide) dX8_testsNeeded_78 ?_
      refine aw_rV (As := [.int (nI l), .int 6]) (S := []) (v := some (.int (o.1 8 (20 * l + 7)))) (o2 := o) (ct_X8_of (l := l) (w := 6) (by omega) (by decide)) (mm_fit_of cbX8_of (by decide) (by decide)) wq969 cvX8_of wv14 rfl rfl rfl (Nat.le_of_ble_eq_true rfl) (by decide) (by decide) rfl dX8_testsNeeded_80 ?_
      refine aw_iload (x := (nI j)) rfl dX8_testsNeeded_83 ?_
      refine aw_icmp_gt (tgt := 95) (by decide) dX8_testsNeeded_85 (fun b1 => ?_) (fun b1 => ?_)
      · skip
        refine aw_iload (x := (nI j)) rfl dX8_testsNeeded_95 ?_
        refine aw_iconst (v := 1) (by decide) dX8_testsNeeded_97 ?_
        refine aw_iaddz (z := nI (j + 1)) (nI_add j 1) dX8_testsNeeded_98 ?_
        refine aw_istore_n (L2 := [some (.ref (ad 14 0 0)), some (.int (nI l)), none, some (.int (nI (j + 1))), some (.int (nI b)), some (.int (nI (i + 1))), some (.int (nI j))]) (by decide) rfl rfl dX8_testsNeeded_99 ?_
        refine aw_goto (tgt := 53) (by decide) dX8_testsNeeded_100 ?_
        refine AW.post (AW.locs (ih (i + 1) (j + 1) (b) (by omega) (by omega) (by omega) (by omega)) (lsub_keep (lsub_keep (lsub_keep (lsub_keep (lsub_keep (lsub_keep (lsub_none lsub_nil)))))))) (fun r o2 q => ?_)
        simpa only [cs_find, ej, c1, c2, c3, c4, b1, ↓reduceIte] using q
      · skip
        refine aw_iload (x := (nI j)) rfl dX8_testsNeeded_88 ?_
        refine aw_istore (L2 := [some (.ref (ad 14 0 0)), some (.int (nI l)), none, some (.int (nI a)), some (.int (nI j)), some (.int (nI (i + 1))), some (.int (nI j))]) (by decide) rfl rfl dX8_testsNeeded_90 ?_
        refine aw_goto (tgt := 100) (by decide) dX8_testsNeeded_92 ?_
        refine aw_goto (tgt := 53) (by decide) dX8_testsNeeded_100 ?_
        refine AW.post (AW.locs (ih (i + 1) (a) (j) (by omega) (by omega) (by omega) (by omega)) (lsub_keep (lsub_keep (lsub_keep (lsub_keep (lsub_keep (lsub_keep (lsub_none lsub_nil)))))))) (fun r o2 q => ?_)
        simpa only [cs_find, ej, c1, c2, c3, c4, b1, ↓reduceIte] using q
    · have c1 : nI a ≥ nI b := nI_le (by omega) (by omega)
      refine aw_iload_n (x := (nI a)) rfl dX8_testsNeeded_53 ?_
      refine aw_iload (x := (nI b)) rfl dX8_testsNeeded_54 ?_
      refine aw_icmp_ge (tgt := 103) (by decide) dX8_testsNeeded_56 (fun _ => ?_) (fun z => absurd c1 z)
      refine aw_iload (x := (nI i)) rfl dX8_testsNeeded_103 ?_
      exact aw_iret rfl (by decide) (by decide) dX8_testsNeeded_105 ⟨by rw [cs_find, if_pos c1], rfl⟩
theorem plan_rg {R : Nat → Int32} (T : TT) : ∀ a b, 1 ≤ a → a < b → b ≤ 12 → ∃ j, a ≤ j ∧ j < b ∧ (cs_plan R 1 12 T).2 (13 * a + b) = nI j := by
  intro a b h1 h2 h3
  obtain ⟨j, g1, g2, g3⟩ := dpD_rg R (d := b - a) (a := a) (by omega)
  refine ⟨j, g1, by omega, ?_⟩
  rw [(plan_ok (R := R) T (A := 1) (B := 12) (by decide) (by decide) h1 (Nat.le_of_lt h2) h3).2, g3]
def rf_need (o : wd_S) (n : Nat) (x : Int32) : Out := match lk n x with
  | none => mR 1 o
  | some l => if o.1 8 (20 * l + 7) = -1 then mR 2 o else oI (nI (cs_find (cs_plan (cs_rk (o.1 8) l) 1 12 (o.1 10, o.1 11)).2 (o.1 8 (20 * l + 7)) 12 0 1 12)) (wt3 (wd_w o 12 1 0) (cs_plan (cs_rk (o.1 8) l) 1 12 (o.1 10, o.1 11)))
theorem rt_need {ad : Nat → Nat → Nat → Nat} {o : wd_S} {n m c : Nat} (V : mv o n m c) {x : Int32} : CT ad MX8_testsNeeded [.ref (ad 14 0 0), .int x] o (OT (rf_need o n x)) := by
  obtain ⟨G, hk, hc⟩ := id V
  obtain ⟨g1, g2, g3, g4, g5, g6⟩ := id G
  refine CT.of (L := [some (.ref (ad 14 0 0)), some (.int x), none, none, none, none, none]) rfl rfl (by decide) (Nat.le_of_ble_eq_true rfl) rfl ?_
  refine aw_aload_n (x := ad 14 0 0) rfl dX8_testsNeeded_0 ?_
  refine aw_iload_n (x := x) rfl dX8_testsNeeded_1 ?_
  rcases k1 : lk n x with _ | l
  · skip
    refine aw_rV (As := [.int x]) (S := []) (v := some (.int 0)) (o2 := o) (ct_X8_isLoop_none G k1) (mm_fit_of cbX8_isLoop (by decide) (by decide)) wq941 cvX8_isLoop wv14 rfl rfl rfl (Nat.le_of_ble_eq_true rfl) (by decide) (by decide) rfl dX8_testsNeeded_2 ?_
    refine aw_istore_n (L2 := [some (.ref (ad 14 0 0)), some (.int x), some (.int 0), none, none, none, none]) (by decide) rfl rfl dX8_testsNeeded_5 ?_
    refine aw_aload_n (x := ad 14 0 0) rfl dX8_testsNeeded_6 ?_
    refine aw_iload_n (x := 0) rfl dX8_testsNeeded_7 ?_
    refine aw_if_ne (tgt := 15) (by decide) dX8_testsNeeded_8 (fun z => absurd z (by decide)) (fun _ => ?_)
    refine aw_iconst (v := 1) (by decide) dX8_testsNeeded_11 ?_
    refine aw_goto (tgt := 31) (by decide) dX8_testsNeeded_12 ?_
    refine aw_rV (As := [.int 1]) (S := []) (v := some (.int 1)) (o2 := (wd_w o 12 1 1)) (ct_refused_p (by decide)) (mm_fit_of cbX8_refused (by decide) (by decide)) wq922 cvX8_refused wv14 rfl rfl rfl (Nat.le_of_ble_eq_true rfl) (by decide) (by decide) rfl dX8_testsNeeded_31 ?_
    obtain ⟨o1, ho1⟩ : ∃ z, z = (wd_w o 12 1 1) := ⟨_, rfl⟩
    rw [← ho1]
    have Go1 : cg (o1.1 8) n m := by rw [ho1]; rw [wd_w_row, row_ne _ _ (by decide)]; exact G
    refine aw_if_eq (tgt := 39) (by decide) dX8_testsNeeded_34 (fun z => absurd z (by decide)) (fun _ => ?_)
    refine aw_iconst (v := 0) (by decide) dX8_testsNeeded_37 ?_
    exact aw_iret rfl (by decide) (by decide) dX8_testsNeeded_38 ⟨by (subst ho1; first | with_reducible rfl | (simp [rf_need, mS, mS_8, oI, mR, oI, mR, wd_w_row, row_self, row_row, k1]; done) | (simp_all [rf_need, mS, mS_8, oI, mR, oI, mR, wd_w_row, row_self, row_row, k1]; done) | (simp only [wd_w_row, row_self, row_row, i32_add0, row_ne _ _ (show (8 : Nat) ≠ 12 by decide)] at *; simp [rf_need, mS, mS_8, oI, mR, oI, mR, wd_w_row, row_self, row_row, k1]; done)), by (subst ho1; first | with_reducible rfl | (simp [rf_need, mS, mS_8, oI, mR, oI, mR, wd_w_row, row_self, row_row, k1]; done) | (simp_all [rf_need, mS, mS_8, oI, mR, oI, mR, wd_w_row, row_self, row_row, k1]; done) | (simp only [wd_w_row, row_self, row_row, i32_add0, row_ne _ _ (show (8 : Nat) ≠ 12 by decide)] at *; simp [rf_need, mS, mS_8, oI, mR, oI, mR, wd_w_row, row_self, row_row, k1]; done))⟩
  · skip
    obtain ⟨rfl, k1l⟩ := lk_some k1
    have k1b : l < 5 := by omega
    refine aw_rV (As := [.int (nI l)]) (S := []) (v := some (.int 1)) (o2 := o) (ct_X8_isLoop_some G k1) (mm_fit_of cbX8_isLoop (by decide) (by decide)) wq941 cvX8_isLoop wv14 rfl rfl rfl (Nat.le_of_ble_eq_true rfl) (by decide) (by decide) rfl dX8_testsNeeded_2 ?_
    refine aw_istore_n (L2 := [some (.ref (ad 14 0 0)), some (.int (nI l)), some (.int 1), none, none, none, none]) (by decide) rfl rfl dX8_testsNeeded_5 ?_
    refine aw_aload_n (x := ad 14 0 0) rfl dX8_testsNeeded_6 ?_
    refine aw_iload_n (x := 1) rfl dX8_testsNeeded_7 ?_
    refine aw_if_ne (tgt := 15) (by decide) dX8_testsNeeded_8 (fun _ => ?_) (fun z => absurd z (by decide))
    refine aw_aload_n (x := ad 14 0 0) rfl dX8_testsNeeded_15 ?_
    refine aw_iload_n (x := (nI l)) rfl dX8_testsNeeded_16 ?_
    refine aw_bipush (v := 6) (by decide) dX8_testsNeeded_17 ?_
    refine aw_rV (As := [.int (nI l), .int 6]) (S := [.ref (ad 14 0 0)]) (v := some (.int (o.1 8 (20 * l + 7)))) (o2 := o) (ct_X8_of (l := l) (w := 6) (by omega) (by decide)) (mm_fit_of cbX8_of (by decide) (by decide)) wq969 cvX8_of wv14 rfl rfl rfl (Nat.le_of_ble_eq_true rfl) (by decide) (by decide) rfl dX8_testsNeeded_19 ?_
    refine aw_iconst (v := (-1)) (by decide) dX8_testsNeeded_22 ?_
    refine aw_icmp_ne (tgt := 30) (by decide) dX8_testsNeeded_23 (fun b2 => ?_) (fun b2 => ?_)
    · skip
      refine aw_iconst (v := 0) (by decide) dX8_testsNeeded_30 ?_
      refine aw_rV (As := [.int 0]) (S := []) (v := some (.int 0)) (o2 := (wd_w o 12 1 0)) (ct_refused_0) (mm_fit_of cbX8_refused (by decide) (by decide)) wq922 cvX8_refused wv14 rfl rfl rfl (Nat.le_of_ble_eq_true rfl) (by decide) (by decide) rfl dX8_testsNeeded_31 ?_
      obtain ⟨o2, ho2⟩ : ∃ z, z = (wd_w o 12 1 0) := ⟨_, rfl⟩
      rw [← ho2]
      have Go2 : cg (o2.1 8) n m := by rw [ho2]; rw [wd_w_row, row_ne _ _ (by decide)]; exact G
      refine aw_if_eq (tgt := 39) (by decide) dX8_testsNeeded_34 (fun _ => ?_) (fun z => absurd z (by decide))
      refine aw_aload_n (x := ad 14 0 0) rfl dX8_testsNeeded_39 ?_
      refine aw_iload_n (x := (nI l)) rfl dX8_testsNeeded_40 ?_
      refine aw_rV (As := [.int (nI l)]) (S := []) (v := none) (o2 := (wt3 o2 (cs_plan (cs_rk (o2.1 8) l) 1 12 (o2.1 10, o2.1 11)))) (ct_X8_lays (by omega)) (mm_fit_of cbX8_laysTests (by decide) (by decide)) wq1163 cvX8_laysTests wv14 rfl rfl rfl (Nat.le_of_ble_eq_true rfl) (by decide) (by decide) rfl dX8_testsNeeded_41 ?_
      rw [show (wt3 o2 (cs_plan (cs_rk (o2.1 8) l) 1 12 (o2.1 10, o2.1 11))) = (wt3 (wd_w o 12 1 0) (cs_plan (cs_rk (o.1 8) l) 1 12 (o.1 10, o.1 11))) by subst ho2; rfl]
      refine aw_iconst (v := 1) (by decide) dX8_testsNeeded_44 ?_
      refine aw_istore_n (L2 := [some (.ref (ad 14 0 0)), some (.int (nI l)), some (.int 1), some (.int 1), none, none, none]) (by decide) rfl rfl dX8_testsNeeded_45 ?_
      refine aw_bipush (v := 12) (by decide) dX8_testsNeeded_46 ?_
      refine aw_istore (L2 := [some (.ref (ad 14 0 0)), some (.int (nI l)), some (.int 1), some (.int 1), some (.int 12), none, none]) (by decide) rfl rfl dX8_testsNeeded_48 ?_
      refine aw_iconst (v := 0) (by decide) dX8_testsNeeded_50 ?_
      refine aw_istore (L2 := [some (.ref (ad 14 0 0)), some (.int (nI l)), some (.int 1), some (.int 1), some (.int 12), some (.int 0), none]) (by decide) rfl rfl dX8_testsNeeded_51 ?_
      have E11 : (wt3 (wd_w o 12 1 0) (cs_plan (cs_rk (o.1 8) l) 1 12 (o.1 10, o.1 11))).1 11 = (cs_plan (cs_rk (o.1 8) l) 1 12 (o.1 10, o.1 11)).2 := wt3_7 _ _
      have E8 : (wt3 (wd_w o 12 1 0) (cs_plan (cs_rk (o.1 8) l) 1 12 (o.1 10, o.1 11))).1 8 = o.1 8 := by rw [wt3_ne _ _ (by decide) (by decide), wd_w_row, row_ne _ _ (by decide)]
      refine AW.post (AW.locs (lp_need (o := (wt3 (wd_w o 12 1 0) (cs_plan (cs_rk (o.1 8) l) 1 12 (o.1 10, o.1 11)))) (l := l) (by omega) (by rw [E11]; exact plan_rg _) 12 0 1 12 (by decide) (by decide) (by decide) (by decide)) (lsub_keep (lsub_keep (lsub_none (lsub_keep (lsub_keep (lsub_keep (lsub_keep lsub_nil)))))))) (fun r o2 q => ?_)
      rw [E11, E8] at q
      simpa [rf_need, k1, b2, OT, oI, RT] using q
    · skip
      refine aw_iconst (v := 2) (by decide) dX8_testsNeeded_26 ?_
      refine aw_goto (tgt := 31) (by decide) dX8_testsNeeded_27 ?_
      refine aw_rV (As := [.int 2]) (S := []) (v := some (.int 1)) (o2 := (wd_w o 12 1 2)) (ct_refused_p (by decide)) (mm_fit_of cbX8_refused (by decide) (by decide)) wq922 cvX8_refused wv14 rfl rfl rfl (Nat.le_of_ble_eq_true rfl) (by decide) (by decide) rfl dX8_testsNeeded_31 ?_
      obtain ⟨o3, ho3⟩ : ∃ z, z = (wd_w o 12 1 2) := ⟨_, rfl⟩
      rw [← ho3]
      have Go3 : cg (o3.1 8) n m := by rw [ho3]; rw [wd_w_row, row_ne _ _ (by decide)]; exact G
      refine aw_if_eq (tgt := 39) (by decide) dX8_testsNeeded_34 (fun z => absurd z (by decide)) (fun _ => ?_)
      refine aw_iconst (v := 0) (by decide) dX8_testsNeeded_37 ?_
      exact aw_iret rfl (by decide) (by decide) dX8_testsNeeded_38 ⟨by (subst ho3; first | with_reducible rfl | (simp [rf_need, mS, mS_8, oI, mR, oI, mR, wd_w_row, row_self, row_row, k1, b2]; done) | (simp_all [rf_need, mS, mS_8, oI, mR, oI, mR, wd_w_row, row_self, row_row, k1, b2]; done) | (simp only [wd_w_row, row_self, row_row, i32_add0, row_ne _ _ (show (8 : Nat) ≠ 12 by decide)] at *; simp [rf_need, mS, mS_8, oI, mR, oI, mR, wd_w_row, row_self, row_row, k1, b2]; done)), by (subst ho3; first | with_reducible rfl | (simp [rf_need, mS, mS_8, oI, mR, oI, mR, wd_w_row, row_self, row_row, k1, b2]; done) | (simp_all [rf_need, mS, mS_8, oI, mR, oI, mR, wd_w_row, row_self, row_row, k1, b2]; done) | (simp only [wd_w_row, row_self, row_row, i32_add0, row_ne _ _ (show (8 : Nat) ≠ 12 by decide)] at *; simp [rf_need, mS, mS_8, oI, mR, oI, mR, wd_w_row, row_self, row_row, k1, b2]; done))⟩
