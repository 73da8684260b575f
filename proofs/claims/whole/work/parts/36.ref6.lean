/-! the reference: its public methods -/
def mv (o : wd_S) (n m c : Nat) : Prop := cg (o.1 8) n m ∧ o.1 12 0 = nI c ∧ c ≤ 4
def mS (o : wd_S) (c : Nat) : wd_S := ms_sv (wd_w o 12 1 0) c
theorem mS_8 (o : wd_S) (c : Nat) : (ms_sv (wd_row o 12 (upd (o.1 12) 1 0)) c).1 8 = o.1 8 := by rw [msv_ne (by decide) (by decide), row_ne _ _ (by decide)]
theorem nI_87 (k : Nat) : nI (8 + k) - 1 = nI (7 + k) := by
  rw [show 8 + k = 7 + k + 1 by omega]; exact nI_pred _
theorem le_lt {x : Int32} {k : Nat} (hk : k < 1000) (h : ¬ x > nI k) : x < nI (k + 1) := by
  have h2 := Int32.not_lt.mp h
  rw [Int32.le_iff_toInt_le, nI_toInt (by omega)] at h2
  rw [Int32.lt_iff_toInt_lt, nI_toInt (by omega)]
  omega
theorem tcl_ne {c : Int32} (h1 : 1 ≤ c) (h2 : c ≤ 14) : ¬ tc_len c = 0 := by
  rcases tc_cases h1 h2 with rfl | rfl | rfl | rfl | rfl | rfl | rfl | rfl | rfl | rfl | rfl | rfl | rfl | rfl <;> decide
theorem tcl_ne2 {c d : Int32} (h1 : 1 ≤ c) (h2 : c ≤ 14) (h3 : 1 ≤ d) (h4 : d ≤ 14) : ¬ tc_len c + tc_len d = 0 := by
  rcases tc_cases h1 h2 with rfl | rfl | rfl | rfl | rfl | rfl | rfl | rfl | rfl | rfl | rfl | rfl | rfl | rfl <;> rcases tc_cases h3 h4 with rfl | rfl | rfl | rfl | rfl | rfl | rfl | rfl | rfl | rfl | rfl | rfl | rfl | rfl <;> decide
theorem mopen_0 (N : Nat → Int32) (n : Nat) : mf_open N n 0 = nI (n + 1) := by
  unfold mf_open
  simp only [upd]
  simp
def rf_addLoop (o : wd_S) (n c : Nat) : Out := if nI n = 5 then mR 1 o else oI (nI n) (wd_row (mS o c) 8 (mf_open (o.1 8) n))
theorem rt_addLoop {ad : Nat → Nat → Nat → Nat} {o : wd_S} {n m c : Nat} (V : mv o n m c)  : CT ad MX8_addLoop [.ref (ad 14 0 0)] o (OT (rf_addLoop o n c)) := by
  obtain ⟨G, hk, hc⟩ := id V
  obtain ⟨g1, g2, g3, g4, g5, g6⟩ := id G
  refine CT.of (L := [some (.ref (ad 14 0 0))]) rfl rfl (by decide) (Nat.le_of_ble_eq_true rfl) rfl ?_
  refine aw_aload_n (x := ad 14 0 0) rfl dX8_addLoop_0 ?_
  refine aw_aload_n (x := ad 14 0 0) rfl dX8_addLoop_1 ?_
  refine aw_getr (q := (15, 0, 0)) wv14 rfl flX8_7 rfl rfl dX8_addLoop_2 ?_
  refine aw_iconst (v := 0) (by decide) dX8_addLoop_5 ?_
  refine aw_ild (x := 0) (q := (8, 0)) (y := nI n) (by decide) (wv15 (by decide)) rfl G.1 (Nat.le_of_ble_eq_true rfl) rfl dX8_addLoop_6 ?_
  refine aw_iconst (v := 5) (by decide) dX8_addLoop_7 ?_
  refine aw_icmp_ne (tgt := 15) (by decide) dX8_addLoop_8 (fun b1 => ?_) (fun b1 => ?_)
  · skip
    refine aw_iconst (v := 0) (by decide) dX8_addLoop_15 ?_
    refine aw_rV (As := [.int 0]) (S := []) (v := some (.int 0)) (o2 := (wd_w o 12 1 0)) (ct_refused_0) (mm_fit_of cbX8_refused (by decide) (by decide)) wq922 cvX8_refused wv14 rfl rfl rfl (Nat.le_of_ble_eq_true rfl) (by decide) (by decide) rfl dX8_addLoop_16 ?_
    obtain ⟨o1, ho1⟩ : ∃ z, z = (wd_w o 12 1 0) := ⟨_, rfl⟩
    rw [← ho1]
    have Go1 : cg (o1.1 8) n m := by rw [ho1]; rw [wd_w_row, row_ne _ _ (by decide)]; exact G
    refine aw_if_eq (tgt := 24) (by decide) dX8_addLoop_19 (fun _ => ?_) (fun z => absurd z (by decide))
    refine aw_aload_n (x := ad 14 0 0) rfl dX8_addLoop_24 ?_
    refine aw_rV (As := []) (S := []) (v := none) (o2 := (ms_sv o1 c)) (ct_X8_saves (by rw [ho1, wd_get, if_neg (by decide)]; exact hk) hc) (mm_fit_of cbX8_saves (by decide) (by decide)) wq930 cvX8_saves wv14 rfl rfl rfl (Nat.le_of_ble_eq_true rfl) (by decide) (by decide) rfl dX8_addLoop_25 ?_
    obtain ⟨o2, ho2⟩ : ∃ z, z = (ms_sv o1 c) := ⟨_, rfl⟩
    rw [← ho2]
    have Go2 : cg (o2.1 8) n m := by rw [ho2]; rw [msv_ne (by decide) (by decide)]; exact Go1
    refine aw_aload_n (x := ad 14 0 0) rfl dX8_addLoop_28 ?_
    refine aw_rV (As := []) (S := []) (v := none) (o2 := (wd_row o2 8 (mf_open (o2.1 8) n))) (ct_X8_makesLoop Go2.1 (by have h9 : ¬ n = 5 := (fun e => b1 (by rw [e]; rfl)); omega)) (mm_fit_of cbX8_makesLoop (by decide) (by decide)) wq884 cvX8_makesLoop wv14 rfl rfl rfl (Nat.le_of_ble_eq_true rfl) (by decide) (by decide) rfl dX8_addLoop_29 ?_
    refine aw_aload_n (x := ad 14 0 0) rfl dX8_addLoop_32 ?_
    refine aw_getr (q := (15, 0, 0)) wv14 rfl flX8_7 rfl rfl dX8_addLoop_33 ?_
    refine aw_iconst (v := 0) (by decide) dX8_addLoop_36 ?_
    refine aw_ild (x := 0) (q := (8, 0)) (y := nI (n + 1)) (by decide) (wv15 (by decide)) rfl (by rw [row_self]; exact mopen_0 _ _) (Nat.le_of_ble_eq_true rfl) rfl dX8_addLoop_37 ?_
    refine aw_iconst (v := 1) (by decide) dX8_addLoop_38 ?_
    refine aw_isubz (z := nI n) (nI_pred (n)) dX8_addLoop_39 ?_
    exact aw_iret rfl (by decide) (by decide) dX8_addLoop_40 ⟨by (subst ho2; subst ho1; first | with_reducible rfl | (simp [rf_addLoop, mS, mS_8, oI, mR, oI, mR, wd_w_row, row_self, row_row, b1]; done) | (simp_all [rf_addLoop, mS, mS_8, oI, mR, oI, mR, wd_w_row, row_self, row_row, b1]; done) | (simp only [wd_w_row, row_self, row_row, i32_add0] at *; simp [rf_addLoop, mS, mS_8, oI, mR, oI, mR, wd_w_row, row_self, row_row, b1]; done)), by (subst ho2; subst ho1; first | with_reducible rfl | (simp [rf_addLoop, mS, mS_8, oI, mR, oI, mR, wd_w_row, row_self, row_row, b1]; done) | (simp_all [rf_addLoop, mS, mS_8, oI, mR, oI, mR, wd_w_row, row_self, row_row, b1]; done) | (simp only [wd_w_row, row_self, row_row, i32_add0] at *; simp [rf_addLoop, mS, mS_8, oI, mR, oI, mR, wd_w_row, row_self, row_row, b1]; done))⟩
  · skip
    refine aw_iconst (v := 1) (by decide) dX8_addLoop_11 ?_
    refine aw_goto (tgt := 16) (by decide) dX8_addLoop_12 ?_
    refine aw_rV (As := [.int 1]) (S := []) (v := some (.int 1)) (o2 := (wd_w o 12 1 1)) (ct_refused_p (by decide)) (mm_fit_of cbX8_refused (by decide) (by decide)) wq922 cvX8_refused wv14 rfl rfl rfl (Nat.le_of_ble_eq_true rfl) (by decide) (by decide) rfl dX8_addLoop_16 ?_
    obtain ⟨o3, ho3⟩ : ∃ z, z = (wd_w o 12 1 1) := ⟨_, rfl⟩
    rw [← ho3]
    have Go3 : cg (o3.1 8) n m := by rw [ho3]; rw [wd_w_row, row_ne _ _ (by decide)]; exact G
    refine aw_if_eq (tgt := 24) (by decide) dX8_addLoop_19 (fun z => absurd z (by decide)) (fun _ => ?_)
    refine aw_iconst (v := 0) (by decide) dX8_addLoop_22 ?_
    exact aw_iret rfl (by decide) (by decide) dX8_addLoop_23 ⟨by (subst ho3; first | with_reducible rfl | (simp [rf_addLoop, mS, mS_8, oI, mR, oI, mR, wd_w_row, row_self, row_row, b1]; done) | (simp_all [rf_addLoop, mS, mS_8, oI, mR, oI, mR, wd_w_row, row_self, row_row, b1]; done) | (simp only [wd_w_row, row_self, row_row, i32_add0] at *; simp [rf_addLoop, mS, mS_8, oI, mR, oI, mR, wd_w_row, row_self, row_row, b1]; done)), by (subst ho3; first | with_reducible rfl | (simp [rf_addLoop, mS, mS_8, oI, mR, oI, mR, wd_w_row, row_self, row_row, b1]; done) | (simp_all [rf_addLoop, mS, mS_8, oI, mR, oI, mR, wd_w_row, row_self, row_row, b1]; done) | (simp only [wd_w_row, row_self, row_row, i32_add0] at *; simp [rf_addLoop, mS, mS_8, oI, mR, oI, mR, wd_w_row, row_self, row_row, b1]; done))⟩
def rf_addSub (o : wd_S) (n m c : Nat) (x p q : Int32) : Out := match lk n x with
  | none => mR 1 o
  | some l => if cs_span p = 0 then mR 2 o else if cs_isCode q = 0 then mR 2 o else if nI m = 16 then mR 3 o else if orF (mf_tk (o.1 8) l q (-1)) m 0 = 0 then oI (nI m) (wd_row (mS o c) 8 (cs_enroll (o.1 8) m l p q)) else mR 3 o
theorem rt_addSub {ad : Nat → Nat → Nat → Nat} {o : wd_S} {n m c : Nat} (V : mv o n m c) {x p q : Int32} : CT ad MX8_addSubscriber [.ref (ad 14 0 0), .int x, .int p, .int q] o (OT (rf_addSub o n m c x p q)) := by
  obtain ⟨G, hk, hc⟩ := id V
  obtain ⟨g1, g2, g3, g4, g5, g6⟩ := id G
  refine CT.of (L := [some (.ref (ad 14 0 0)), some (.int x), some (.int p), some (.int q), none, none]) rfl rfl (by decide) (Nat.le_of_ble_eq_true rfl) rfl ?_
  refine aw_iload_n (x := p) rfl dX8_addSubscriber_0 ?_
  refine aw_iconst (v := 1) (by decide) dX8_addSubscriber_1 ?_
  refine aw_bipush (v := 12) (by decide) dX8_addSubscriber_2 ?_
  by_cases w1 : p < 1
  · skip
    refine aw_rS (As := [.int p, .int 1, .int 12]) (S := []) (v := some (.int 0)) (o2 := o) (ct_within_lo w1) (mm_fit_of cbX8_within (by decide) (by decide)) wq938 wq939 rfl rfl (Nat.le_of_ble_eq_true rfl) (by decide) (by decide) rfl dX8_addSubscriber_4 ?_
    refine aw_if_eq (tgt := 24) (by decide) dX8_addSubscriber_7 (fun _ => ?_) (fun z => absurd z (by decide))
    refine aw_iconst (v := 0) (by decide) dX8_addSubscriber_24 ?_
    refine aw_istore (L2 := [some (.ref (ad 14 0 0)), some (.int x), some (.int p), some (.int q), some (.int 0), none]) (by decide) rfl rfl dX8_addSubscriber_25 ?_
    refine aw_aload_n (x := ad 14 0 0) rfl dX8_addSubscriber_27 ?_
    refine aw_aload_n (x := ad 14 0 0) rfl dX8_addSubscriber_28 ?_
    refine aw_iload_n (x := x) rfl dX8_addSubscriber_29 ?_
    rcases k2 : lk n x with _ | l
    · skip
      refine aw_rV (As := [.int x]) (S := [.ref (ad 14 0 0)]) (v := some (.int 0)) (o2 := o) (ct_X8_isLoop_none G k2) (mm_fit_of cbX8_isLoop (by decide) (by decide)) wq941 cvX8_isLoop wv14 rfl rfl rfl (Nat.le_of_ble_eq_true rfl) (by decide) (by decide) rfl dX8_addSubscriber_30 ?_
      refine aw_if_ne (tgt := 40) (by decide) dX8_addSubscriber_33 (fun z => absurd z (by decide)) (fun _ => ?_)
      refine aw_iconst (v := 1) (by decide) dX8_addSubscriber_36 ?_
      refine aw_goto (tgt := 76) (by decide) dX8_addSubscriber_37 ?_
      refine aw_rV (As := [.int 1]) (S := []) (v := some (.int 1)) (o2 := (wd_w o 12 1 1)) (ct_refused_p (by decide)) (mm_fit_of cbX8_refused (by decide) (by decide)) wq922 cvX8_refused wv14 rfl rfl rfl (Nat.le_of_ble_eq_true rfl) (by decide) (by decide) rfl dX8_addSubscriber_76 ?_
      obtain ⟨o1, ho1⟩ : ∃ z, z = (wd_w o 12 1 1) := ⟨_, rfl⟩
      rw [← ho1]
      have Go1 : cg (o1.1 8) n m := by rw [ho1]; rw [wd_w_row, row_ne _ _ (by decide)]; exact G
      refine aw_if_eq (tgt := 84) (by decide) dX8_addSubscriber_79 (fun z => absurd z (by decide)) (fun _ => ?_)
      refine aw_iconst (v := 0) (by decide) dX8_addSubscriber_82 ?_
      exact aw_iret rfl (by decide) (by decide) dX8_addSubscriber_83 ⟨by (subst ho1; first | with_reducible rfl | (simp [rf_addSub, cs_span, cs_isCode, cs_enroll, cs_sbeg, mS, mS_8, oI, mR, oI, mR, wd_w_row, row_self, row_row, w1, k2]; done) | (simp_all [rf_addSub, cs_span, cs_isCode, cs_enroll, cs_sbeg, mS, mS_8, oI, mR, oI, mR, wd_w_row, row_self, row_row, w1, k2]; done) | (simp only [wd_w_row, row_self, row_row, i32_add0] at *; simp [rf_addSub, cs_span, cs_isCode, cs_enroll, cs_sbeg, mS, mS_8, oI, mR, oI, mR, wd_w_row, row_self, row_row, w1, k2]; done)), by (subst ho1; first | with_reducible rfl | (simp [rf_addSub, cs_span, cs_isCode, cs_enroll, cs_sbeg, mS, mS_8, oI, mR, oI, mR, wd_w_row, row_self, row_row, w1, k2]; done) | (simp_all [rf_addSub, cs_span, cs_isCode, cs_enroll, cs_sbeg, mS, mS_8, oI, mR, oI, mR, wd_w_row, row_self, row_row, w1, k2]; done) | (simp only [wd_w_row, row_self, row_row, i32_add0] at *; simp [rf_addSub, cs_span, cs_isCode, cs_enroll, cs_sbeg, mS, mS_8, oI, mR, oI, mR, wd_w_row, row_self, row_row, w1, k2]; done))⟩
    · skip
      obtain ⟨rfl, k2l⟩ := lk_some k2
      have k2b : l < 5 := by omega
      refine aw_rV (As := [.int (nI l)]) (S := [.ref (ad 14 0 0)]) (v := some (.int 1)) (o2 := o) (ct_X8_isLoop_some G k2) (mm_fit_of cbX8_isLoop (by decide) (by decide)) wq941 cvX8_isLoop wv14 rfl rfl rfl (Nat.le_of_ble_eq_true rfl) (by decide) (by decide) rfl dX8_addSubscriber_30 ?_
      refine aw_if_ne (tgt := 40) (by decide) dX8_addSubscriber_33 (fun _ => ?_) (fun z => absurd z (by decide))
      refine aw_iload (x := 0) rfl dX8_addSubscriber_40 ?_
      refine aw_if_ne (tgt := 49) (by decide) dX8_addSubscriber_42 (fun z => absurd z (by decide)) (fun _ => ?_)
      refine aw_iconst (v := 2) (by decide) dX8_addSubscriber_45 ?_
      refine aw_goto (tgt := 76) (by decide) dX8_addSubscriber_46 ?_
      refine aw_rV (As := [.int 2]) (S := []) (v := some (.int 1)) (o2 := (wd_w o 12 1 2)) (ct_refused_p (by decide)) (mm_fit_of cbX8_refused (by decide) (by decide)) wq922 cvX8_refused wv14 rfl rfl rfl (Nat.le_of_ble_eq_true rfl) (by decide) (by decide) rfl dX8_addSubscriber_76 ?_
      obtain ⟨o2, ho2⟩ : ∃ z, z = (wd_w o 12 1 2) := ⟨_, rfl⟩
      rw [← ho2]
      have Go2 : cg (o2.1 8) n m := by rw [ho2]; rw [wd_w_row, row_ne _ _ (by decide)]; exact G
      refine aw_if_eq (tgt := 84) (by decide) dX8_addSubscriber_79 (fun z => absurd z (by decide)) (fun _ => ?_)
      refine aw_iconst (v := 0) (by decide) dX8_addSubscriber_82 ?_
      exact aw_iret rfl (by decide) (by decide) dX8_addSubscriber_83 ⟨by (subst ho2; first | with_reducible rfl | (simp [rf_addSub, cs_span, cs_isCode, cs_enroll, cs_sbeg, mS, mS_8, oI, mR, oI, mR, wd_w_row, row_self, row_row, w1, k2]; done) | (simp_all [rf_addSub, cs_span, cs_isCode, cs_enroll, cs_sbeg, mS, mS_8, oI, mR, oI, mR, wd_w_row, row_self, row_row, w1, k2]; done) | (simp only [wd_w_row, row_self, row_row, i32_add0] at *; simp [rf_addSub, cs_span, cs_isCode, cs_enroll, cs_sbeg, mS, mS_8, oI, mR, oI, mR, wd_w_row, row_self, row_row, w1, k2]; done)), by (subst ho2; first | with_reducible rfl | (simp [rf_addSub, cs_span, cs_isCode, cs_enroll, cs_sbeg, mS, mS_8, oI, mR, oI, mR, wd_w_row, row_self, row_row, w1, k2]; done) | (simp_all [rf_addSub, cs_span, cs_isCode, cs_enroll, cs_sbeg, mS, mS_8, oI, mR, oI, mR, wd_w_row, row_self, row_row, w1, k2]; done) | (simp only [wd_w_row, row_self, row_row, i32_add0] at *; simp [rf_addSub, cs_span, cs_isCode, cs_enroll, cs_sbeg, mS, mS_8, oI, mR, oI, mR, wd_w_row, row_self, row_row, w1, k2]; done))⟩
  · skip
    by_cases zw1 : p > 12
    · skip
      refine aw_rS (As := [.int p, .int 1, .int 12]) (S := []) (v := some (.int 0)) (o2 := o) (ct_within_hi zw1) (mm_fit_of cbX8_within (by decide) (by decide)) wq938 wq939 rfl rfl (Nat.le_of_ble_eq_true rfl) (by decide) (by decide) rfl dX8_addSubscriber_4 ?_
      refine aw_if_eq (tgt := 24) (by decide) dX8_addSubscriber_7 (fun _ => ?_) (fun z => absurd z (by decide))
      refine aw_iconst (v := 0) (by decide) dX8_addSubscriber_24 ?_
      refine aw_istore (L2 := [some (.ref (ad 14 0 0)), some (.int x), some (.int p), some (.int q), some (.int 0), none]) (by decide) rfl rfl dX8_addSubscriber_25 ?_
      refine aw_aload_n (x := ad 14 0 0) rfl dX8_addSubscriber_27 ?_
      refine aw_aload_n (x := ad 14 0 0) rfl dX8_addSubscriber_28 ?_
      refine aw_iload_n (x := x) rfl dX8_addSubscriber_29 ?_
      rcases k3 : lk n x with _ | l3
      · skip
        refine aw_rV (As := [.int x]) (S := [.ref (ad 14 0 0)]) (v := some (.int 0)) (o2 := o) (ct_X8_isLoop_none G k3) (mm_fit_of cbX8_isLoop (by decide) (by decide)) wq941 cvX8_isLoop wv14 rfl rfl rfl (Nat.le_of_ble_eq_true rfl) (by decide) (by decide) rfl dX8_addSubscriber_30 ?_
        refine aw_if_ne (tgt := 40) (by decide) dX8_addSubscriber_33 (fun z => absurd z (by decide)) (fun _ => ?_)
        refine aw_iconst (v := 1) (by decide) dX8_addSubscriber_36 ?_
        refine aw_goto (tgt := 76) (by decide) dX8_addSubscriber_37 ?_
        refine aw_rV (As := [.int 1]) (S := []) (v := some (.int 1)) (o2 := (wd_w o 12 1 1)) (ct_refused_p (by decide)) (mm_fit_of cbX8_refused (by decide) (by decide)) wq922 cvX8_refused wv14 rfl rfl rfl (Nat.le_of_ble_eq_true rfl) (by decide) (by decide) rfl dX8_addSubscriber_76 ?_
        obtain ⟨o3, ho3⟩ : ∃ z, z = (wd_w o 12 1 1) := ⟨_, rfl⟩
        rw [← ho3]
        have Go3 : cg (o3.1 8) n m := by rw [ho3]; rw [wd_w_row, row_ne _ _ (by decide)]; exact G
        refine aw_if_eq (tgt := 84) (by decide) dX8_addSubscriber_79 (fun z => absurd z (by decide)) (fun _ => ?_)
        refine aw_iconst (v := 0) (by decide) dX8_addSubscriber_82 ?_
        exact aw_iret rfl (by decide) (by decide) dX8_addSubscriber_83 ⟨by (subst ho3; first | with_reducible rfl | (simp [rf_addSub, cs_span, cs_isCode, cs_enroll, cs_sbeg, mS, mS_8, oI, mR, oI, mR, wd_w_row, row_self, row_row, w1, zw1, k3]; done) | (simp_all [rf_addSub, cs_span, cs_isCode, cs_enroll, cs_sbeg, mS, mS_8, oI, mR, oI, mR, wd_w_row, row_self, row_row, w1, zw1, k3]; done) | (simp only [wd_w_row, row_self, row_row, i32_add0] at *; simp [rf_addSub, cs_span, cs_isCode, cs_enroll, cs_sbeg, mS, mS_8, oI, mR, oI, mR, wd_w_row, row_self, row_row, w1, zw1, k3]; done)), by (subst ho3; first | with_reducible rfl | (simp [rf_addSub, cs_span, cs_isCode, cs_enroll, cs_sbeg, mS, mS_8, oI, mR, oI, mR, wd_w_row, row_self, row_row, w1, zw1, k3]; done) | (simp_all [rf_addSub, cs_span, cs_isCode, cs_enroll, cs_sbeg, mS, mS_8, oI, mR, oI, mR, wd_w_row, row_self, row_row, w1, zw1, k3]; done) | (simp only [wd_w_row, row_self, row_row, i32_add0] at *; simp [rf_addSub, cs_span, cs_isCode, cs_enroll, cs_sbeg, mS, mS_8, oI, mR, oI, mR, wd_w_row, row_self, row_row, w1, zw1, k3]; done))⟩
      · skip
        obtain ⟨rfl, k3l⟩ := lk_some k3
        have k3b : l3 < 5 := by omega
        refine aw_rV (As := [.int (nI l3)]) (S := [.ref (ad 14 0 0)]) (v := some (.int 1)) (o2 := o) (ct_X8_isLoop_some G k3) (mm_fit_of cbX8_isLoop (by decide) (by decide)) wq941 cvX8_isLoop wv14 rfl rfl rfl (Nat.le_of_ble_eq_true rfl) (by decide) (by decide) rfl dX8_addSubscriber_30 ?_
        refine aw_if_ne (tgt := 40) (by decide) dX8_addSubscriber_33 (fun _ => ?_) (fun z => absurd z (by decide))
        refine aw_iload (x := 0) rfl dX8_addSubscriber_40 ?_
        refine aw_if_ne (tgt := 49) (by decide) dX8_addSubscriber_42 (fun z => absurd z (by decide)) (fun _ => ?_)
        refine aw_iconst (v := 2) (by decide) dX8_addSubscriber_45 ?_
        refine aw_goto (tgt := 76) (by decide) dX8_addSubscriber_46 ?_
        refine aw_rV (As := [.int 2]) (S := []) (v := some (.int 1)) (o2 := (wd_w o 12 1 2)) (ct_refused_p (by decide)) (mm_fit_of cbX8_refused (by decide) (by decide)) wq922 cvX8_refused wv14 rfl rfl rfl (Nat.le_of_ble_eq_true rfl) (by decide) (by decide) rfl dX8_addSubscriber_76 ?_
        obtain ⟨o4, ho4⟩ : ∃ z, z = (wd_w o 12 1 2) := ⟨_, rfl⟩
        rw [← ho4]
        have Go4 : cg (o4.1 8) n m := by rw [ho4]; rw [wd_w_row, row_ne _ _ (by decide)]; exact G
        refine aw_if_eq (tgt := 84) (by decide) dX8_addSubscriber_79 (fun z => absurd z (by decide)) (fun _ => ?_)
        refine aw_iconst (v := 0) (by decide) dX8_addSubscriber_82 ?_
        exact aw_iret rfl (by decide) (by decide) dX8_addSubscriber_83 ⟨by (subst ho4; first | with_reducible rfl | (simp [rf_addSub, cs_span, cs_isCode, cs_enroll, cs_sbeg, mS, mS_8, oI, mR, oI, mR, wd_w_row, row_self, row_row, w1, zw1, k3]; done) | (simp_all [rf_addSub, cs_span, cs_isCode, cs_enroll, cs_sbeg, mS, mS_8, oI, mR, oI, mR, wd_w_row, row_self, row_row, w1, zw1, k3]; done) | (simp only [wd_w_row, row_self, row_row, i32_add0] at *; simp [rf_addSub, cs_span, cs_isCode, cs_enroll, cs_sbeg, mS, mS_8, oI, mR, oI, mR, wd_w_row, row_self, row_row, w1, zw1, k3]; done)), by (subst ho4; first | with_reducible rfl | (simp [rf_addSub, cs_span, cs_isCode, cs_enroll, cs_sbeg, mS, mS_8, oI, mR, oI, mR, wd_w_row, row_self, row_row, w1, zw1, k3]; done) | (simp_all [rf_addSub, cs_span, cs_isCode, cs_enroll, cs_sbeg, mS, mS_8, oI, mR, oI, mR, wd_w_row, row_self, row_row, w1, zw1, k3]; done) | (simp only [wd_w_row, row_self, row_row, i32_add0] at *; simp [rf_addSub, cs_span, cs_isCode, cs_enroll, cs_sbeg, mS, mS_8, oI, mR, oI, mR, wd_w_row, row_self, row_row, w1, zw1, k3]; done))⟩
    · skip
      refine aw_rS (As := [.int p, .int 1, .int 12]) (S := []) (v := some (.int 1)) (o2 := o) (ct_within_in w1 zw1) (mm_fit_of cbX8_within (by decide) (by decide)) wq938 wq939 rfl rfl (Nat.le_of_ble_eq_true rfl) (by decide) (by decide) rfl dX8_addSubscriber_4 ?_
      refine aw_if_eq (tgt := 24) (by decide) dX8_addSubscriber_7 (fun z => absurd z (by decide)) (fun _ => ?_)
      refine aw_iload_n (x := q) rfl dX8_addSubscriber_10 ?_
      refine aw_iconst (v := 1) (by decide) dX8_addSubscriber_11 ?_
      refine aw_bipush (v := 14) (by decide) dX8_addSubscriber_12 ?_
      by_cases w4 : q < 1
      · skip
        refine aw_rS (As := [.int q, .int 1, .int 14]) (S := []) (v := some (.int 0)) (o2 := o) (ct_within_lo w4) (mm_fit_of cbX8_within (by decide) (by decide)) wq938 wq939 rfl rfl (Nat.le_of_ble_eq_true rfl) (by decide) (by decide) rfl dX8_addSubscriber_14 ?_
        refine aw_if_eq (tgt := 24) (by decide) dX8_addSubscriber_17 (fun _ => ?_) (fun z => absurd z (by decide))
        refine aw_iconst (v := 0) (by decide) dX8_addSubscriber_24 ?_
        refine aw_istore (L2 := [some (.ref (ad 14 0 0)), some (.int x), some (.int p), some (.int q), some (.int 0), none]) (by decide) rfl rfl dX8_addSubscriber_25 ?_
        refine aw_aload_n (x := ad 14 0 0) rfl dX8_addSubscriber_27 ?_
        refine aw_aload_n (x := ad 14 0 0) rfl dX8_addSubscriber_28 ?_
        refine aw_iload_n (x := x) rfl dX8_addSubscriber_29 ?_
        rcases k5 : lk n x with _ | l5
        · skip
          refine aw_rV (As := [.int x]) (S := [.ref (ad 14 0 0)]) (v := some (.int 0)) (o2 := o) (ct_X8_isLoop_none G k5) (mm_fit_of cbX8_isLoop (by decide) (by decide)) wq941 cvX8_isLoop wv14 rfl rfl rfl (Nat.le_of_ble_eq_true rfl) (by decide) (by decide) rfl dX8_addSubscriber_30 ?_
          refine aw_if_ne (tgt := 40) (by decide) dX8_addSubscriber_33 (fun z => absurd z (by decide)) (fun _ => ?_)
          refine aw_iconst (v := 1) (by decide) dX8_addSubscriber_36 ?_
          refine aw_goto (tgt := 76) (by decide) dX8_addSubscriber_37 ?_
          refine aw_rV (As := [.int 1]) (S := []) (v := some (.int 1)) (o2 := (wd_w o 12 1 1)) (ct_refused_p (by decide)) (mm_fit_of cbX8_refused (by decide) (by decide)) wq922 cvX8_refused wv14 rfl rfl rfl (Nat.le_of_ble_eq_true rfl) (by decide) (by decide) rfl dX8_addSubscriber_76 ?_
          obtain ⟨o5, ho5⟩ : ∃ z, z = (wd_w o 12 1 1) := ⟨_, rfl⟩
          rw [← ho5]
          have Go5 : cg (o5.1 8) n m := by rw [ho5]; rw [wd_w_row, row_ne _ _ (by decide)]; exact G
          refine aw_if_eq (tgt := 84) (by decide) dX8_addSubscriber_79 (fun z => absurd z (by decide)) (fun _ => ?_)
          refine aw_iconst (v := 0) (by decide) dX8_addSubscriber_82 ?_
          exact aw_iret rfl (by decide) (by decide) dX8_addSubscriber_83 ⟨by (subst ho5; first | with_reducible rfl | (simp [rf_addSub, cs_span, cs_isCode, cs_enroll, cs_sbeg, mS, mS_8, oI, mR, oI, mR, wd_w_row, row_self, row_row, w1, zw1, w4, k5]; done) | (simp_all [rf_addSub, cs_span, cs_isCode, cs_enroll, cs_sbeg, mS, mS_8, oI, mR, oI, mR, wd_w_row, row_self, row_row, w1, zw1, w4, k5]; done) | (simp only [wd_w_row, row_self, row_row, i32_add0] at *; simp [rf_addSub, cs_span, cs_isCode, cs_enroll, cs_sbeg, mS, mS_8, oI, mR, oI, mR, wd_w_row, row_self, row_row, w1, zw1, w4, k5]; done)), by (subst ho5; first | with_reducible rfl | (simp [rf_addSub, cs_span, cs_isCode, cs_enroll, cs_sbeg, mS, mS_8, oI, mR, oI, mR, wd_w_row, row_self, row_row, w1, zw1, w4, k5]; done) | (simp_all [rf_addSub, cs_span, cs_isCode, cs_enroll, cs_sbeg, mS, mS_8, oI, mR, oI, mR, wd_w_row, row_self, row_row, w1, zw1, w4, k5]; done) | (simp only [wd_w_row, row_self, row_row, i32_add0] at *; simp [rf_addSub, cs_span, cs_isCode, cs_enroll, cs_sbeg, mS, mS_8, oI, mR, oI, mR, wd_w_row, row_self, row_row, w1, zw1, w4, k5]; done))⟩
        · skip
          obtain ⟨rfl, k5l⟩ := lk_some k5
          have k5b : l5 < 5 := by omega
          refine aw_rV (As := [.int (nI l5)]) (S := [.ref (ad 14 0 0)]) (v := some (.int 1)) (o2 := o) (ct_X8_isLoop_some G k5) (mm_fit_of cbX8_isLoop (by decide) (by decide)) wq941 cvX8_isLoop wv14 rfl rfl rfl (Nat.le_of_ble_eq_true rfl) (by decide) (by decide) rfl dX8_addSubscriber_30 ?_
          refine aw_if_ne (tgt := 40) (by decide) dX8_addSubscriber_33 (fun _ => ?_) (fun z => absurd z (by decide))
          refine aw_iload (x := 0) rfl dX8_addSubscriber_40 ?_
          refine aw_if_ne (tgt := 49) (by decide) dX8_addSubscriber_42 (fun z => absurd z (by decide)) (fun _ => ?_)
          refine aw_iconst (v := 2) (by decide) dX8_addSubscriber_45 ?_
          refine aw_goto (tgt := 76) (by decide) dX8_addSubscriber_46 ?_
          refine aw_rV (As := [.int 2]) (S := []) (v := some (.int 1)) (o2 := (wd_w o 12 1 2)) (ct_refused_p (by decide)) (mm_fit_of cbX8_refused (by decide) (by decide)) wq922 cvX8_refused wv14 rfl rfl rfl (Nat.le_of_ble_eq_true rfl) (by decide) (by decide) rfl dX8_addSubscriber_76 ?_
          obtain ⟨o6, ho6⟩ : ∃ z, z = (wd_w o 12 1 2) := ⟨_, rfl⟩
          rw [← ho6]
          have Go6 : cg (o6.1 8) n m := by rw [ho6]; rw [wd_w_row, row_ne _ _ (by decide)]; exact G
          refine aw_if_eq (tgt := 84) (by decide) dX8_addSubscriber_79 (fun z => absurd z (by decide)) (fun _ => ?_)
          refine aw_iconst (v := 0) (by decide) dX8_addSubscriber_82 ?_
          exact aw_iret rfl (by decide) (by decide) dX8_addSubscriber_83 ⟨by (subst ho6; first | with_reducible rfl | (simp [rf_addSub, cs_span, cs_isCode, cs_enroll, cs_sbeg, mS, mS_8, oI, mR, oI, mR, wd_w_row, row_self, row_row, w1, zw1, w4, k5]; done) | (simp_all [rf_addSub, cs_span, cs_isCode, cs_enroll, cs_sbeg, mS, mS_8, oI, mR, oI, mR, wd_w_row, row_self, row_row, w1, zw1, w4, k5]; done) | (simp only [wd_w_row, row_self, row_row, i32_add0] at *; simp [rf_addSub, cs_span, cs_isCode, cs_enroll, cs_sbeg, mS, mS_8, oI, mR, oI, mR, wd_w_row, row_self, row_row, w1, zw1, w4, k5]; done)), by (subst ho6; first | with_reducible rfl | (simp [rf_addSub, cs_span, cs_isCode, cs_enroll, cs_sbeg, mS, mS_8, oI, mR, oI, mR, wd_w_row, row_self, row_row, w1, zw1, w4, k5]; done) | (simp_all [rf_addSub, cs_span, cs_isCode, cs_enroll, cs_sbeg, mS, mS_8, oI, mR, oI, mR, wd_w_row, row_self, row_row, w1, zw1, w4, k5]; done) | (simp only [wd_w_row, row_self, row_row, i32_add0] at *; simp [rf_addSub, cs_span, cs_isCode, cs_enroll, cs_sbeg, mS, mS_8, oI, mR, oI, mR, wd_w_row, row_self, row_row, w1, zw1, w4, k5]; done))⟩
      · skip
        by_cases zw4 : q > 14
        · skip
          refine aw_rS (As := [.int q, .int 1, .int 14]) (S := []) (v := some (.int 0)) (o2 := o) (ct_within_hi zw4) (mm_fit_of cbX8_within (by decide) (by decide)) wq938 wq939 rfl rfl (Nat.le_of_ble_eq_true rfl) (by decide) (by decide) rfl dX8_addSubscriber_14 ?_
          refine aw_if_eq (tgt := 24) (by decide) dX8_addSubscriber_17 (fun _ => ?_) (fun z => absurd z (by decide))
          refine aw_iconst (v := 0) (by decide) dX8_addSubscriber_24 ?_
          refine aw_istore (L2 := [some (.ref (ad 14 0 0)), some (.int x), some (.int p), some (.int q), some (.int 0), none]) (by decide) rfl rfl dX8_addSubscriber_25 ?_
          refine aw_aload_n (x := ad 14 0 0) rfl dX8_addSubscriber_27 ?_
          refine aw_aload_n (x := ad 14 0 0) rfl dX8_addSubscriber_28 ?_
          refine aw_iload_n (x := x) rfl dX8_addSubscriber_29 ?_
          rcases k6 : lk n x with _ | l6
          · skip
            refine aw_rV (As := [.int x]) (S := [.ref (ad 14 0 0)]) (v := some (.int 0)) (o2 := o) (ct_X8_isLoop_none G k6) (mm_fit_of cbX8_isLoop (by decide) (by decide)) wq941 cvX8_isLoop wv14 rfl rfl rfl (Nat.le_of_ble_eq_true rfl) (by decide) (by decide) rfl dX8_addSubscriber_30 ?_
            refine aw_if_ne (tgt := 40) (by decide) dX8_addSubscriber_33 (fun z => absurd z (by decide)) (fun _ => ?_)
            refine aw_iconst (v := 1) (by decide) dX8_addSubscriber_36 ?_
            refine aw_goto (tgt := 76) (by decide) dX8_addSubscriber_37 ?_
            refine aw_rV (As := [.int 1]) (S := []) (v := some (.int 1)) (o2 := (wd_w o 12 1 1)) (ct_refused_p (by decide)) (mm_fit_of cbX8_refused (by decide) (by decide)) wq922 cvX8_refused wv14 rfl rfl rfl (Nat.le_of_ble_eq_true rfl) (by decide) (by decide) rfl dX8_addSubscriber_76 ?_
            obtain ⟨o7, ho7⟩ : ∃ z, z = (wd_w o 12 1 1) := ⟨_, rfl⟩
            rw [← ho7]
            have Go7 : cg (o7.1 8) n m := by rw [ho7]; rw [wd_w_row, row_ne _ _ (by decide)]; exact G
            refine aw_if_eq (tgt := 84) (by decide) dX8_addSubscriber_79 (fun z => absurd z (by decide)) (fun _ => ?_)
            refine aw_iconst (v := 0) (by decide) dX8_addSubscriber_82 ?_
            exact aw_iret rfl (by decide) (by decide) dX8_addSubscriber_83 ⟨by (subst ho7; first | with_reducible rfl | (simp [rf_addSub, cs_span, cs_isCode, cs_enroll, cs_sbeg, mS, mS_8, oI, mR, oI, mR, wd_w_row, row_self, row_row, w1, zw1, w4, zw4, k6]; done) | (simp_all [rf_addSub, cs_span, cs_isCode, cs_enroll, cs_sbeg, mS, mS_8, oI, mR, oI, mR, wd_w_row, row_self, row_row, w1, zw1, w4, zw4, k6]; done) | (simp only [wd_w_row, row_self, row_row, i32_add0] at *; simp [rf_addSub, cs_span, cs_isCode, cs_enroll, cs_sbeg, mS, mS_8, oI, mR, oI, mR, wd_w_row, row_self, row_row, w1, zw1, w4, zw4, k6]; done)), by (subst ho7; first | with_reducible rfl | (simp [rf_addSub, cs_span, cs_isCode, cs_enroll, cs_sbeg, mS, mS_8, oI, mR, oI, mR, wd_w_row, row_self, row_row, w1, zw1, w4, zw4, k6]; done) | (simp_all [rf_addSub, cs_span, cs_isCode, cs_enroll, cs_sbeg, mS, mS_8, oI, mR, oI, mR, wd_w_row, row_self, row_row, w1, zw1, w4, zw4, k6]; done) | (simp only [wd_w_row, row_self, row_row, i32_add0] at *; simp [rf_addSub, cs_span, cs_isCode, cs_enroll, cs_sbeg, mS, mS_8, oI, mR, oI, mR, wd_w_row, row_self, row_row, w1, zw1, w4, zw4, k6]; done))⟩
          · skip
            obtain ⟨rfl, k6l⟩ := lk_some k6
            have k6b : l6 < 5 := by omega
            refine aw_rV (As := [.int (nI l6)]) (S := [.ref (ad 14 0 0)]) (v := some (.int 1)) (o2 := o) (ct_X8_isLoop_some G k6) (mm_fit_of cbX8_isLoop (by decide) (by decide)) wq941 cvX8_isLoop wv14 rfl rfl rfl (Nat.le_of_ble_eq_true rfl) (by decide) (by decide) rfl dX8_addSubscriber_30 ?_
            refine aw_if_ne (tgt := 40) (by decide) dX8_addSubscriber_33 (fun _ => ?_) (fun z => absurd z (by decide))
            refine aw_iload (x := 0) rfl dX8_addSubscriber_40 ?_
            refine aw_if_ne (tgt := 49) (by decide) dX8_addSubscriber_42 (fun z => absurd z (by decide)) (fun _ => ?_)
            refine aw_iconst (v := 2) (by decide) dX8_addSubscriber_45 ?_
            refine aw_goto (tgt := 76) (by decide) dX8_addSubscriber_46 ?_
            refine aw_rV (As := [.int 2]) (S := []) (v := some (.int 1)) (o2 := (wd_w o 12 1 2)) (ct_refused_p (by decide)) (mm_fit_of cbX8_refused (by decide) (by decide)) wq922 cvX8_refused wv14 rfl rfl rfl (Nat.le_of_ble_eq_true rfl) (by decide) (by decide) rfl dX8_addSubscriber_76 ?_
            obtain ⟨o8, ho8⟩ : ∃ z, z = (wd_w o 12 1 2) := ⟨_, rfl⟩
            rw [← ho8]
            have Go8 : cg (o8.1 8) n m := by rw [ho8]; rw [wd_w_row, row_ne _ _ (by decide)]; exact G
            refine aw_if_eq (tgt := 84) (by decide) dX8_addSubscriber_79 (fun z => absurd z (by decide)) (fun _ => ?_)
            refine aw_iconst (v := 0) (by decide) dX8_addSubscriber_82 ?_
            exact aw_iret rfl (by decide) (by decide) dX8_addSubscriber_83 ⟨by (subst ho8; first | with_reducible rfl | (simp [rf_addSub, cs_span, cs_isCode, cs_enroll, cs_sbeg, mS, mS_8, oI, mR, oI, mR, wd_w_row, row_self, row_row, w1, zw1, w4, zw4, k6]; done) | (simp_all [rf_addSub, cs_span, cs_isCode, cs_enroll, cs_sbeg, mS, mS_8, oI, mR, oI, mR, wd_w_row, row_self, row_row, w1, zw1, w4, zw4, k6]; done) | (simp only [wd_w_row, row_self, row_row, i32_add0] at *; simp [rf_addSub, cs_span, cs_isCode, cs_enroll, cs_sbeg, mS, mS_8, oI, mR, oI, mR, wd_w_row, row_self, row_row, w1, zw1, w4, zw4, k6]; done)), by (subst ho8; first | with_reducible rfl | (simp [rf_addSub, cs_span, cs_isCode, cs_enroll, cs_sbeg, mS, mS_8, oI, mR, oI, mR, wd_w_row, row_self, row_row, w1, zw1, w4, zw4, k6]; done) | (simp_all [rf_addSub, cs_span, cs_isCode, cs_enroll, cs_sbeg, mS, mS_8, oI, mR, oI, mR, wd_w_row, row_self, row_row, w1, zw1, w4, zw4, k6]; done) | (simp only [wd_w_row, row_self, row_row, i32_add0] at *; simp [rf_addSub, cs_span, cs_isCode, cs_enroll, cs_sbeg, mS, mS_8, oI, mR, oI, mR, wd_w_row, row_self, row_row, w1, zw1, w4, zw4, k6]; done))⟩
        · skip
          refine aw_rS (As := [.int q, .int 1, .int 14]) (S := []) (v := some (.int 1)) (o2 := o) (ct_within_in w4 zw4) (mm_fit_of cbX8_within (by decide) (by decide)) wq938 wq939 rfl rfl (Nat.le_of_ble_eq_true rfl) (by decide) (by decide) rfl dX8_addSubscriber_14 ?_
          refine aw_if_eq (tgt := 24) (by decide) dX8_addSubscriber_17 (fun z => absurd z (by decide)) (fun _ => ?_)
          refine aw_iconst (v := 1) (by decide) dX8_addSubscriber_20 ?_
          refine aw_goto (tgt := 25) (by decide) dX8_addSubscriber_21 ?_
          refine aw_istore (L2 := [some (.ref (ad 14 0 0)), some (.int x), some (.int p), some (.int q), some (.int 1), none]) (by decide) rfl rfl dX8_addSubscriber_25 ?_
          refine aw_aload_n (x := ad 14 0 0) rfl dX8_addSubscriber_27 ?_
          refine aw_aload_n (x := ad 14 0 0) rfl dX8_addSubscriber_28 ?_
          refine aw_iload_n (x := x) rfl dX8_addSubscriber_29 ?_
          rcases k7 : lk n x with _ | l7
          · skip
            refine aw_rV (As := [.int x]) (S := [.ref (ad 14 0 0)]) (v := some (.int 0)) (o2 := o) (ct_X8_isLoop_none G k7) (mm_fit_of cbX8_isLoop (by decide) (by decide)) wq941 cvX8_isLoop wv14 rfl rfl rfl (Nat.le_of_ble_eq_true rfl) (by decide) (by decide) rfl dX8_addSubscriber_30 ?_
            refine aw_if_ne (tgt := 40) (by decide) dX8_addSubscriber_33 (fun z => absurd z (by decide)) (fun _ => ?_)
            refine aw_iconst (v := 1) (by decide) dX8_addSubscriber_36 ?_
            refine aw_goto (tgt := 76) (by decide) dX8_addSubscriber_37 ?_
            refine aw_rV (As := [.int 1]) (S := []) (v := some (.int 1)) (o2 := (wd_w o 12 1 1)) (ct_refused_p (by decide)) (mm_fit_of cbX8_refused (by decide) (by decide)) wq922 cvX8_refused wv14 rfl rfl rfl (Nat.le_of_ble_eq_true rfl) (by decide) (by decide) rfl dX8_addSubscriber_76 ?_
            obtain ⟨o9, ho9⟩ : ∃ z, z = (wd_w o 12 1 1) := ⟨_, rfl⟩
            rw [← ho9]
            have Go9 : cg (o9.1 8) n m := by rw [ho9]; rw [wd_w_row, row_ne _ _ (by decide)]; exact G
            refine aw_if_eq (tgt := 84) (by decide) dX8_addSubscriber_79 (fun z => absurd z (by decide)) (fun _ => ?_)
            refine aw_iconst (v := 0) (by decide) dX8_addSubscriber_82 ?_
            exact aw_iret rfl (by decide) (by decide) dX8_addSubscriber_83 ⟨by (subst ho9; first | with_reducible rfl | (simp [rf_addSub, cs_span, cs_isCode, cs_enroll, cs_sbeg, mS, mS_8, oI, mR, oI, mR, wd_w_row, row_self, row_row, w1, zw1, w4, zw4, k7]; done) | (simp_all [rf_addSub, cs_span, cs_isCode, cs_enroll, cs_sbeg, mS, mS_8, oI, mR, oI, mR, wd_w_row, row_self, row_row, w1, zw1, w4, zw4, k7]; done) | (simp only [wd_w_row, row_self, row_row, i32_add0] at *; simp [rf_addSub, cs_span, cs_isCode, cs_enroll, cs_sbeg, mS, mS_8, oI, mR, oI, mR, wd_w_row, row_self, row_row, w1, zw1, w4, zw4, k7]; done)), by (subst ho9; first | with_reducible rfl | (simp [rf_addSub, cs_span, cs_isCode, cs_enroll, cs_sbeg, mS, mS_8, oI, mR, oI, mR, wd_w_row, row_self, row_row, w1, zw1, w4, zw4, k7]; done) | (simp_all [rf_addSub, cs_span, cs_isCode, cs_enroll, cs_sbeg, mS, mS_8, oI, mR, oI, mR, wd_w_row, row_self, row_row, w1, zw1, w4, zw4, k7]; done) | (simp only [wd_w_row, row_self, row_row, i32_add0] at *; simp [rf_addSub, cs_span, cs_isCode, cs_enroll, cs_sbeg, mS, mS_8, oI, mR, oI, mR, wd_w_row, row_self, row_row, w1, zw1, w4, zw4, k7]; done))⟩
          · skip
            obtain ⟨rfl, k7l⟩ := lk_some k7
            have k7b : l7 < 5 := by omega
            refine aw_rV (As := [.int (nI l7)]) (S := [.ref (ad 14 0 0)]) (v := some (.int 1)) (o2 := o) (ct_X8_isLoop_some G k7) (mm_fit_of cbX8_isLoop (by decide) (by decide)) wq941 cvX8_isLoop wv14 rfl rfl rfl (Nat.le_of_ble_eq_true rfl) (by decide) (by decide) rfl dX8_addSubscriber_30 ?_
            refine aw_if_ne (tgt := 40) (by decide) dX8_addSubscriber_33 (fun _ => ?_) (fun z => absurd z (by decide))
            refine aw_iload (x := 1) rfl dX8_addSubscriber_40 ?_
            refine aw_if_ne (tgt := 49) (by decide) dX8_addSubscriber_42 (fun _ => ?_) (fun z => absurd z (by decide))
            refine aw_aload_n (x := ad 14 0 0) rfl dX8_addSubscriber_49 ?_
            refine aw_getr (q := (15, 0, 0)) wv14 rfl flX8_7 rfl rfl dX8_addSubscriber_50 ?_
            refine aw_bipush (v := 101) (by decide) dX8_addSubscriber_53 ?_
            refine aw_ild (x := 101) (q := (8, 101)) (y := nI m) (by decide) (wv15 (by decide)) rfl G.2.2.1 (Nat.le_of_ble_eq_true rfl) rfl dX8_addSubscriber_55 ?_
            refine aw_bipush (v := 16) (by decide) dX8_addSubscriber_56 ?_
            refine aw_icmp_eq (tgt := 71) (by decide) dX8_addSubscriber_58 (fun b8 => ?_) (fun b8 => ?_)
            · skip
              refine aw_iconst (v := 3) (by decide) dX8_addSubscriber_71 ?_
              refine aw_goto (tgt := 76) (by decide) dX8_addSubscriber_72 ?_
              refine aw_rV (As := [.int 3]) (S := []) (v := some (.int 1)) (o2 := (wd_w o 12 1 3)) (ct_refused_p (by decide)) (mm_fit_of cbX8_refused (by decide) (by decide)) wq922 cvX8_refused wv14 rfl rfl rfl (Nat.le_of_ble_eq_true rfl) (by decide) (by decide) rfl dX8_addSubscriber_76 ?_
              obtain ⟨o10, ho10⟩ : ∃ z, z = (wd_w o 12 1 3) := ⟨_, rfl⟩
              rw [← ho10]
              have Go10 : cg (o10.1 8) n m := by rw [ho10]; rw [wd_w_row, row_ne _ _ (by decide)]; exact G
              refine aw_if_eq (tgt := 84) (by decide) dX8_addSubscriber_79 (fun z => absurd z (by decide)) (fun _ => ?_)
              refine aw_iconst (v := 0) (by decide) dX8_addSubscriber_82 ?_
              exact aw_iret rfl (by decide) (by decide) dX8_addSubscriber_83 ⟨by (subst ho10; first | with_reducible rfl | (simp [rf_addSub, cs_span, cs_isCode, cs_enroll, cs_sbeg, mS, mS_8, oI, mR, oI, mR, wd_w_row, row_self, row_row, w1, zw1, w4, zw4, k7, b8]; done) | (simp_all [rf_addSub, cs_span, cs_isCode, cs_enroll, cs_sbeg, mS, mS_8, oI, mR, oI, mR, wd_w_row, row_self, row_row, w1, zw1, w4, zw4, k7, b8]; done) | (simp only [wd_w_row, row_self, row_row, i32_add0] at *; simp [rf_addSub, cs_span, cs_isCode, cs_enroll, cs_sbeg, mS, mS_8, oI, mR, oI, mR, wd_w_row, row_self, row_row, w1, zw1, w4, zw4, k7, b8]; done)), by (subst ho10; first | with_reducible rfl | (simp [rf_addSub, cs_span, cs_isCode, cs_enroll, cs_sbeg, mS, mS_8, oI, mR, oI, mR, wd_w_row, row_self, row_row, w1, zw1, w4, zw4, k7, b8]; done) | (simp_all [rf_addSub, cs_span, cs_isCode, cs_enroll, cs_sbeg, mS, mS_8, oI, mR, oI, mR, wd_w_row, row_self, row_row, w1, zw1, w4, zw4, k7, b8]; done) | (simp only [wd_w_row, row_self, row_row, i32_add0] at *; simp [rf_addSub, cs_span, cs_isCode, cs_enroll, cs_sbeg, mS, mS_8, oI, mR, oI, mR, wd_w_row, row_self, row_row, w1, zw1, w4, zw4, k7, b8]; done))⟩
            · skip
              refine aw_aload_n (x := ad 14 0 0) rfl dX8_addSubscriber_61 ?_
              refine aw_iload_n (x := (nI l7)) rfl dX8_addSubscriber_62 ?_
              refine aw_iload_n (x := q) rfl dX8_addSubscriber_63 ?_
              refine aw_iconst (v := (-1)) (by decide) dX8_addSubscriber_64 ?_
              refine aw_rV (As := [.int (nI l7), .int q, .int (-1)]) (S := [.ref (ad 14 0 0)]) (v := some (.int (orF (mf_tk (o.1 8) l7 q (-1)) m 0))) (o2 := o) (ct_X8_isTaken G (by omega)) (mm_fit_of cbX8_isTaken (by decide) (by decide)) wq945 cvX8_isTaken wv14 rfl rfl rfl (Nat.le_of_ble_eq_true rfl) (by decide) (by decide) rfl dX8_addSubscriber_65 ?_
              refine aw_if_eq (tgt := 75) (by decide) dX8_addSubscriber_68 (fun b9 => ?_) (fun b9 => ?_)
              · skip
                refine aw_iconst (v := 0) (by decide) dX8_addSubscriber_75 ?_
                refine aw_rV (As := [.int 0]) (S := []) (v := some (.int 0)) (o2 := (wd_w o 12 1 0)) (ct_refused_0) (mm_fit_of cbX8_refused (by decide) (by decide)) wq922 cvX8_refused wv14 rfl rfl rfl (Nat.le_of_ble_eq_true rfl) (by decide) (by decide) rfl dX8_addSubscriber_76 ?_
                obtain ⟨o11, ho11⟩ : ∃ z, z = (wd_w o 12 1 0) := ⟨_, rfl⟩
                rw [← ho11]
                have Go11 : cg (o11.1 8) n m := by rw [ho11]; rw [wd_w_row, row_ne _ _ (by decide)]; exact G
                refine aw_if_eq (tgt := 84) (by decide) dX8_addSubscriber_79 (fun _ => ?_) (fun z => absurd z (by decide))
                refine aw_aload_n (x := ad 14 0 0) rfl dX8_addSubscriber_84 ?_
                refine aw_rV (As := []) (S := []) (v := none) (o2 := (ms_sv o11 c)) (ct_X8_saves (by rw [ho11, wd_get, if_neg (by decide)]; exact hk) hc) (mm_fit_of cbX8_saves (by decide) (by decide)) wq930 cvX8_saves wv14 rfl rfl rfl (Nat.le_of_ble_eq_true rfl) (by decide) (by decide) rfl dX8_addSubscriber_85 ?_
                obtain ⟨o12, ho12⟩ : ∃ z, z = (ms_sv o11 c) := ⟨_, rfl⟩
                rw [← ho12]
                have Go12 : cg (o12.1 8) n m := by rw [ho12]; rw [msv_ne (by decide) (by decide)]; exact Go11
                have hm16 : m < 16 := by have h9 : ¬ m = 16 := (fun e => b8 (by rw [e]; rfl)); omega
                refine aw_aload_n (x := ad 14 0 0) rfl dX8_addSubscriber_88 ?_
                refine aw_getr (q := (15, 0, 0)) wv14 rfl flX8_7 rfl rfl dX8_addSubscriber_89 ?_
                refine aw_bipush (v := 101) (by decide) dX8_addSubscriber_92 ?_
                refine aw_ild (x := 101) (q := (8, 101)) (y := nI m) (by decide) (wv15 (by decide)) rfl Go12.2.2.1 (Nat.le_of_ble_eq_true rfl) rfl dX8_addSubscriber_94 ?_
                refine aw_istore (L2 := [some (.ref (ad 14 0 0)), some (.int (nI l7)), some (.int p), some (.int q), some (.int 1), some (.int (nI m))]) (by decide) rfl rfl dX8_addSubscriber_95 ?_
                refine aw_aload_n (x := ad 14 0 0) rfl dX8_addSubscriber_97 ?_
                refine aw_getr (q := (15, 0, 0)) wv14 rfl flX8_7 rfl rfl dX8_addSubscriber_98 ?_
                refine aw_bipush (v := 101) (by decide) dX8_addSubscriber_101 ?_
                refine aw_dup2 rfl rfl dX8_addSubscriber_103 ?_
                refine aw_ild (x := 101) (q := (8, 101)) (y := nI m) (by decide) (wv15 (by decide)) rfl Go12.2.2.1 (Nat.le_of_ble_eq_true rfl) rfl dX8_addSubscriber_104 ?_
                refine aw_iconst (v := 1) (by decide) dX8_addSubscriber_105 ?_
                refine aw_iaddz (z := nI (m + 1)) (nI_add m 1) dX8_addSubscriber_106 ?_
                refine aw_ist (x := 101) (q := (8, 101)) (y := nI (m + 1)) (by decide) (wv15 (by decide)) rfl (Nat.le_of_ble_eq_true rfl) rfl dX8_addSubscriber_107 ?_
                refine aw_aload_n (x := ad 14 0 0) rfl dX8_addSubscriber_108 ?_
                refine aw_iload (x := (nI m)) rfl dX8_addSubscriber_109 ?_
                refine aw_iconst (v := 0) (by decide) dX8_addSubscriber_111 ?_
                refine aw_iload_n (x := (nI l7)) rfl dX8_addSubscriber_112 ?_
                refine aw_rV (As := [.int (nI m), .int 0, .int (nI l7)]) (S := []) (v := none) (o2 := (wd_w (wd_w o12 8 101 (nI (m + 1))) 8 (101 + 8 * m + 1) (nI l7))) (ct_X8_give (s := m) (w := 0) (by omega) (by decide)) (mm_fit_of cbX8_give (by decide) (by decide)) wq953 cvX8_give wv14 rfl rfl rfl (Nat.le_of_ble_eq_true rfl) (by decide) (by decide) rfl dX8_addSubscriber_113 ?_
                refine aw_aload_n (x := ad 14 0 0) rfl dX8_addSubscriber_116 ?_
                refine aw_iload (x := (nI m)) rfl dX8_addSubscriber_117 ?_
                refine aw_iconst (v := 1) (by decide) dX8_addSubscriber_119 ?_
                refine aw_iload_n (x := p) rfl dX8_addSubscriber_120 ?_
                refine aw_rV (As := [.int (nI m), .int 1, .int p]) (S := []) (v := none) (o2 := (wd_w (wd_w (wd_w o12 8 101 (nI (m + 1))) 8 (101 + 8 * m + 1) (nI l7)) 8 (101 + 8 * m + 2) p)) (ct_X8_give (s := m) (w := 1) (by omega) (by decide)) (mm_fit_of cbX8_give (by decide) (by decide)) wq953 cvX8_give wv14 rfl rfl rfl (Nat.le_of_ble_eq_true rfl) (by decide) (by decide) rfl dX8_addSubscriber_121 ?_
                refine aw_aload_n (x := ad 14 0 0) rfl dX8_addSubscriber_124 ?_
                refine aw_iload (x := (nI m)) rfl dX8_addSubscriber_125 ?_
                refine aw_iconst (v := 2) (by decide) dX8_addSubscriber_127 ?_
                refine aw_iload_n (x := q) rfl dX8_addSubscriber_128 ?_
                refine aw_rV (As := [.int (nI m), .int 2, .int q]) (S := []) (v := none) (o2 := (wd_w (wd_w (wd_w (wd_w o12 8 101 (nI (m + 1))) 8 (101 + 8 * m + 1) (nI l7)) 8 (101 + 8 * m + 2) p) 8 (101 + 8 * m + 3) q)) (ct_X8_give (s := m) (w := 2) (by omega) (by decide)) (mm_fit_of cbX8_give (by decide) (by decide)) wq953 cvX8_give wv14 rfl rfl rfl (Nat.le_of_ble_eq_true rfl) (by decide) (by decide) rfl dX8_addSubscriber_129 ?_
                refine aw_aload_n (x := ad 14 0 0) rfl dX8_addSubscriber_132 ?_
                refine aw_iload (x := (nI m)) rfl dX8_addSubscriber_133 ?_
                refine aw_iconst (v := 3) (by decide) dX8_addSubscriber_135 ?_
                refine aw_iconst (v := 0) (by decide) dX8_addSubscriber_136 ?_
                refine aw_rV (As := [.int (nI m), .int 3, .int 0]) (S := []) (v := none) (o2 := (wd_w (wd_w (wd_w (wd_w (wd_w o12 8 101 (nI (m + 1))) 8 (101 + 8 * m + 1) (nI l7)) 8 (101 + 8 * m + 2) p) 8 (101 + 8 * m + 3) q) 8 (101 + 8 * m + 4) 0)) (ct_X8_give (s := m) (w := 3) (by omega) (by decide)) (mm_fit_of cbX8_give (by decide) (by decide)) wq953 cvX8_give wv14 rfl rfl rfl (Nat.le_of_ble_eq_true rfl) (by decide) (by decide) rfl dX8_addSubscriber_137 ?_
                refine aw_aload_n (x := ad 14 0 0) rfl dX8_addSubscriber_140 ?_
                refine aw_iload (x := (nI m)) rfl dX8_addSubscriber_141 ?_
                refine aw_iconst (v := 4) (by decide) dX8_addSubscriber_143 ?_
                refine aw_iconst (v := 1) (by decide) dX8_addSubscriber_144 ?_
                refine aw_rV (As := [.int (nI m), .int 4, .int 1]) (S := []) (v := none) (o2 := (wd_w (wd_w (wd_w (wd_w (wd_w (wd_w o12 8 101 (nI (m + 1))) 8 (101 + 8 * m + 1) (nI l7)) 8 (101 + 8 * m + 2) p) 8 (101 + 8 * m + 3) q) 8 (101 + 8 * m + 4) 0) 8 (101 + 8 * m + 5) 1)) (ct_X8_give (s := m) (w := 4) (by omega) (by decide)) (mm_fit_of cbX8_give (by decide) (by decide)) wq953 cvX8_give wv14 rfl rfl rfl (Nat.le_of_ble_eq_true rfl) (by decide) (by decide) rfl dX8_addSubscriber_145 ?_
                refine aw_aload_n (x := ad 14 0 0) rfl dX8_addSubscriber_148 ?_
                refine aw_iload (x := (nI m)) rfl dX8_addSubscriber_149 ?_
                refine aw_iconst (v := 5) (by decide) dX8_addSubscriber_151 ?_
                refine aw_iconst (v := 0) (by decide) dX8_addSubscriber_152 ?_
                refine aw_rV (As := [.int (nI m), .int 5, .int 0]) (S := []) (v := none) (o2 := (wd_w (wd_w (wd_w (wd_w (wd_w (wd_w (wd_w o12 8 101 (nI (m + 1))) 8 (101 + 8 * m + 1) (nI l7)) 8 (101 + 8 * m + 2) p) 8 (101 + 8 * m + 3) q) 8 (101 + 8 * m + 4) 0) 8 (101 + 8 * m + 5) 1) 8 (101 + 8 * m + 6) 0)) (ct_X8_give (s := m) (w := 5) (by omega) (by decide)) (mm_fit_of cbX8_give (by decide) (by decide)) wq953 cvX8_give wv14 rfl rfl rfl (Nat.le_of_ble_eq_true rfl) (by decide) (by decide) rfl dX8_addSubscriber_153 ?_
                refine aw_aload_n (x := ad 14 0 0) rfl dX8_addSubscriber_156 ?_
                refine aw_iload (x := (nI m)) rfl dX8_addSubscriber_157 ?_
                refine aw_bipush (v := 6) (by decide) dX8_addSubscriber_159 ?_
                refine aw_iconst (v := 0) (by decide) dX8_addSubscriber_161 ?_
                refine aw_rV (As := [.int (nI m), .int 6, .int 0]) (S := []) (v := none) (o2 := (wd_w (wd_w (wd_w (wd_w (wd_w (wd_w (wd_w (wd_w o12 8 101 (nI (m + 1))) 8 (101 + 8 * m + 1) (nI l7)) 8 (101 + 8 * m + 2) p) 8 (101 + 8 * m + 3) q) 8 (101 + 8 * m + 4) 0) 8 (101 + 8 * m + 5) 1) 8 (101 + 8 * m + 6) 0) 8 (101 + 8 * m + 7) 0)) (ct_X8_give (s := m) (w := 6) (by omega) (by decide)) (mm_fit_of cbX8_give (by decide) (by decide)) wq953 cvX8_give wv14 rfl rfl rfl (Nat.le_of_ble_eq_true rfl) (by decide) (by decide) rfl dX8_addSubscriber_162 ?_
                refine aw_aload_n (x := ad 14 0 0) rfl dX8_addSubscriber_165 ?_
                refine aw_iload (x := (nI m)) rfl dX8_addSubscriber_166 ?_
                refine aw_bipush (v := 7) (by decide) dX8_addSubscriber_168 ?_
                refine aw_iconst (v := 0) (by decide) dX8_addSubscriber_170 ?_
                refine aw_rV (As := [.int (nI m), .int 7, .int 0]) (S := []) (v := none) (o2 := (wd_w (wd_w (wd_w (wd_w (wd_w (wd_w (wd_w (wd_w (wd_w o12 8 101 (nI (m + 1))) 8 (101 + 8 * m + 1) (nI l7)) 8 (101 + 8 * m + 2) p) 8 (101 + 8 * m + 3) q) 8 (101 + 8 * m + 4) 0) 8 (101 + 8 * m + 5) 1) 8 (101 + 8 * m + 6) 0) 8 (101 + 8 * m + 7) 0) 8 (101 + 8 * m + 8) 0)) (ct_X8_give (s := m) (w := 7) (by omega) (by decide)) (mm_fit_of cbX8_give (by decide) (by decide)) wq953 cvX8_give wv14 rfl rfl rfl (Nat.le_of_ble_eq_true rfl) (by decide) (by decide) rfl dX8_addSubscriber_171 ?_
                refine aw_iload (x := (nI m)) rfl dX8_addSubscriber_174 ?_
                exact aw_iret rfl (by decide) (by decide) dX8_addSubscriber_176 ⟨by (subst ho12; subst ho11; first | with_reducible rfl | (simp [rf_addSub, cs_span, cs_isCode, cs_enroll, cs_sbeg, mS, mS_8, oI, mR, oI, mR, wd_w_row, row_self, row_row, w1, zw1, w4, zw4, k7, b8, b9]; done) | (simp_all [rf_addSub, cs_span, cs_isCode, cs_enroll, cs_sbeg, mS, mS_8, oI, mR, oI, mR, wd_w_row, row_self, row_row, w1, zw1, w4, zw4, k7, b8, b9]; done) | (simp only [wd_w_row, row_self, row_row, i32_add0] at *; simp [rf_addSub, cs_span, cs_isCode, cs_enroll, cs_sbeg, mS, mS_8, oI, mR, oI, mR, wd_w_row, row_self, row_row, w1, zw1, w4, zw4, k7, b8, b9]; done)), by (subst ho12; subst ho11; first | with_reducible rfl | (simp [rf_addSub, cs_span, cs_isCode, cs_enroll, cs_sbeg, mS, mS_8, oI, mR, oI, mR, wd_w_row, row_self, row_row, w1, zw1, w4, zw4, k7, b8, b9]; done) | (simp_all [rf_addSub, cs_span, cs_isCode, cs_enroll, cs_sbeg, mS, mS_8, oI, mR, oI, mR, wd_w_row, row_self, row_row, w1, zw1, w4, zw4, k7, b8, b9]; done) | (simp only [wd_w_row, row_self, row_row, i32_add0] at *; simp [rf_addSub, cs_span, cs_isCode, cs_enroll, cs_sbeg, mS, mS_8, oI, mR, oI, mR, wd_w_row, row_self, row_row, w1, zw1, w4, zw4, k7, b8, b9]; done))⟩
              · skip
                refine aw_iconst (v := 3) (by decide) dX8_addSubscriber_71 ?_
                refine aw_goto (tgt := 76) (by decide) dX8_addSubscriber_72 ?_
                refine aw_rV (As := [.int 3]) (S := []) (v := some (.int 1)) (o2 := (wd_w o 12 1 3)) (ct_refused_p (by decide)) (mm_fit_of cbX8_refused (by decide) (by decide)) wq922 cvX8_refused wv14 rfl rfl rfl (Nat.le_of_ble_eq_true rfl) (by decide) (by decide) rfl dX8_addSubscriber_76 ?_
                obtain ⟨o13, ho13⟩ : ∃ z, z = (wd_w o 12 1 3) := ⟨_, rfl⟩
                rw [← ho13]
                have Go13 : cg (o13.1 8) n m := by rw [ho13]; rw [wd_w_row, row_ne _ _ (by decide)]; exact G
                refine aw_if_eq (tgt := 84) (by decide) dX8_addSubscriber_79 (fun z => absurd z (by decide)) (fun _ => ?_)
                refine aw_iconst (v := 0) (by decide) dX8_addSubscriber_82 ?_
                exact aw_iret rfl (by decide) (by decide) dX8_addSubscriber_83 ⟨by (subst ho13; first | with_reducible rfl | (simp [rf_addSub, cs_span, cs_isCode, cs_enroll, cs_sbeg, mS, mS_8, oI, mR, oI, mR, wd_w_row, row_self, row_row, w1, zw1, w4, zw4, k7, b8, b9]; done) | (simp_all [rf_addSub, cs_span, cs_isCode, cs_enroll, cs_sbeg, mS, mS_8, oI, mR, oI, mR, wd_w_row, row_self, row_row, w1, zw1, w4, zw4, k7, b8, b9]; done) | (simp only [wd_w_row, row_self, row_row, i32_add0] at *; simp [rf_addSub, cs_span, cs_isCode, cs_enroll, cs_sbeg, mS, mS_8, oI, mR, oI, mR, wd_w_row, row_self, row_row, w1, zw1, w4, zw4, k7, b8, b9]; done)), by (subst ho13; first | with_reducible rfl | (simp [rf_addSub, cs_span, cs_isCode, cs_enroll, cs_sbeg, mS, mS_8, oI, mR, oI, mR, wd_w_row, row_self, row_row, w1, zw1, w4, zw4, k7, b8, b9]; done) | (simp_all [rf_addSub, cs_span, cs_isCode, cs_enroll, cs_sbeg, mS, mS_8, oI, mR, oI, mR, wd_w_row, row_self, row_row, w1, zw1, w4, zw4, k7, b8, b9]; done) | (simp only [wd_w_row, row_self, row_row, i32_add0] at *; simp [rf_addSub, cs_span, cs_isCode, cs_enroll, cs_sbeg, mS, mS_8, oI, mR, oI, mR, wd_w_row, row_self, row_row, w1, zw1, w4, zw4, k7, b8, b9]; done))⟩
def rf_set0 (o : wd_S) (m c : Nat) (x v : Int32) : Out := match lk m x with
  | none => mR 1 o
  | some s => if cs_isCode v = 0 then mR 2 o else if orF (mf_tk (o.1 8) (hm (o.1 8) s) v (nI s)) m 0 = 0 then (if mf_rung (o.1 8) (hm (o.1 8) s) = 0 then oI (o.1 8 (101 + 8 * s + 3)) (wd_row (mS o c) 8 (upd (o.1 8) (101 + 8 * s + 3) v)) else mR 3 o) else mR 3 o
def rf_set1 (o : wd_S) (m c : Nat) (x v : Int32) : Out := match lk m x with
  | none => mR 1 o
  | some s => if v < 0 then mR 2 o else if v > 1 then mR 2 o else oI (o.1 8 (101 + 8 * s + 4)) (wd_row (mS o c) 8 (upd (o.1 8) (101 + 8 * s + 4) v))
def rf_set2 (o : wd_S) (m c : Nat) (x v : Int32) : Out := match lk m x with
  | none => mR 1 o
  | some s => if v < 0 then mR 2 o else if v > 99 then mR 2 o else oI (o.1 8 (101 + 8 * s + 5)) (wd_row (mS o c) 8 (upd (o.1 8) (101 + 8 * s + 5) v))
def rf_setx (o : wd_S) (m : Nat) (x : Int32) : Out := match lk m x with
  | none => mR 1 o
  | some s => mR 2 o
theorem rt_set0 {ad : Nat → Nat → Nat → Nat} {o : wd_S} {n m c : Nat} (V : mv o n m c) {x v : Int32} : CT ad MX8_set [.ref (ad 14 0 0), .int x, .int 0, .int v] o (OT (rf_set0 o m c x v)) := by
  obtain ⟨G, hk, hc⟩ := id V
  obtain ⟨g1, g2, g3, g4, g5, g6⟩ := id G
  refine CT.of (L := [some (.ref (ad 14 0 0)), some (.int x), some (.int 0), some (.int v), none, none, none]) rfl rfl (by decide) (Nat.le_of_ble_eq_true rfl) rfl ?_
  refine aw_aload_n (x := ad 14 0 0) rfl dX8_set_0 ?_
  refine aw_iload_n (x := x) rfl dX8_set_1 ?_
  rcases k1 : lk m x with _ | s
  · skip
    refine aw_rV (As := [.int x]) (S := []) (v := some (.int 0)) (o2 := o) (ct_X8_isOne_none G k1) (mm_fit_of cbX8_isOne (by decide) (by decide)) wq961 cvX8_isOne wv14 rfl rfl rfl (Nat.le_of_ble_eq_true rfl) (by decide) (by decide) rfl dX8_set_2 ?_
    refine aw_istore (L2 := [some (.ref (ad 14 0 0)), some (.int x), some (.int 0), some (.int v), some (.int 0), none, none]) (by decide) rfl rfl dX8_set_5 ?_
    refine aw_iload_n (x := 0) rfl dX8_set_7 ?_
    refine aw_if_ne (tgt := 21) (by decide) dX8_set_8 (fun z => absurd z (by decide)) (fun _ => ?_)
    refine aw_iload_n (x := v) rfl dX8_set_11 ?_
    refine aw_iconst (v := 1) (by decide) dX8_set_12 ?_
    refine aw_bipush (v := 14) (by decide) dX8_set_13 ?_
    by_cases w2 : v < 1
    · skip
      refine aw_rS (As := [.int v, .int 1, .int 14]) (S := []) (v := some (.int 0)) (o2 := o) (ct_within_lo w2) (mm_fit_of cbX8_within (by decide) (by decide)) wq938 wq939 rfl rfl (Nat.le_of_ble_eq_true rfl) (by decide) (by decide) rfl dX8_set_15 ?_
      refine aw_goto (tgt := 55) (by decide) dX8_set_18 ?_
      refine aw_istore (L2 := [some (.ref (ad 14 0 0)), some (.int x), some (.int 0), some (.int v), some (.int 0), some (.int 0), none]) (by decide) rfl rfl dX8_set_55 ?_
      refine aw_aload_n (x := ad 14 0 0) rfl dX8_set_57 ?_
      refine aw_iload (x := 0) rfl dX8_set_58 ?_
      refine aw_if_ne (tgt := 67) (by decide) dX8_set_60 (fun z => absurd z (by decide)) (fun _ => ?_)
      refine aw_iconst (v := 1) (by decide) dX8_set_63 ?_
      refine aw_goto (tgt := 113) (by decide) dX8_set_64 ?_
      refine aw_rV (As := [.int 1]) (S := []) (v := some (.int 1)) (o2 := (wd_w o 12 1 1)) (ct_refused_p (by decide)) (mm_fit_of cbX8_refused (by decide) (by decide)) wq922 cvX8_refused wv14 rfl rfl rfl (Nat.le_of_ble_eq_true rfl) (by decide) (by decide) rfl dX8_set_113 ?_
      obtain ⟨o1, ho1⟩ : ∃ z, z = (wd_w o 12 1 1) := ⟨_, rfl⟩
      rw [← ho1]
      have Go1 : cg (o1.1 8) n m := by rw [ho1]; rw [wd_w_row, row_ne _ _ (by decide)]; exact G
      refine aw_if_eq (tgt := 121) (by decide) dX8_set_116 (fun z => absurd z (by decide)) (fun _ => ?_)
      refine aw_iconst (v := 0) (by decide) dX8_set_119 ?_
      exact aw_iret rfl (by decide) (by decide) dX8_set_120 ⟨by (subst ho1; first | with_reducible rfl | (simp [rf_set0, cs_isCode, mS, mS_8, oI, mR, oI, mR, wd_w_row, row_self, row_row, k1, w2]; done) | (simp_all [rf_set0, cs_isCode, mS, mS_8, oI, mR, oI, mR, wd_w_row, row_self, row_row, k1, w2]; done) | (simp only [wd_w_row, row_self, row_row, i32_add0] at *; simp [rf_set0, cs_isCode, mS, mS_8, oI, mR, oI, mR, wd_w_row, row_self, row_row, k1, w2]; done)), by (subst ho1; first | with_reducible rfl | (simp [rf_set0, cs_isCode, mS, mS_8, oI, mR, oI, mR, wd_w_row, row_self, row_row, k1, w2]; done) | (simp_all [rf_set0, cs_isCode, mS, mS_8, oI, mR, oI, mR, wd_w_row, row_self, row_row, k1, w2]; done) | (simp only [wd_w_row, row_self, row_row, i32_add0] at *; simp [rf_set0, cs_isCode, mS, mS_8, oI, mR, oI, mR, wd_w_row, row_self, row_row, k1, w2]; done))⟩
    · skip
      by_cases zw2 : v > 14
      · skip
        refine aw_rS (As := [.int v, .int 1, .int 14]) (S := []) (v := some (.int 0)) (o2 := o) (ct_within_hi zw2) (mm_fit_of cbX8_within (by decide) (by decide)) wq938 wq939 rfl rfl (Nat.le_of_ble_eq_true rfl) (by decide) (by decide) rfl dX8_set_15 ?_
        refine aw_goto (tgt := 55) (by decide) dX8_set_18 ?_
        refine aw_istore (L2 := [some (.ref (ad 14 0 0)), some (.int x), some (.int 0), some (.int v), some (.int 0), some (.int 0), none]) (by decide) rfl rfl dX8_set_55 ?_
        refine aw_aload_n (x := ad 14 0 0) rfl dX8_set_57 ?_
        refine aw_iload (x := 0) rfl dX8_set_58 ?_
        refine aw_if_ne (tgt := 67) (by decide) dX8_set_60 (fun z => absurd z (by decide)) (fun _ => ?_)
        refine aw_iconst (v := 1) (by decide) dX8_set_63 ?_
        refine aw_goto (tgt := 113) (by decide) dX8_set_64 ?_
        refine aw_rV (As := [.int 1]) (S := []) (v := some (.int 1)) (o2 := (wd_w o 12 1 1)) (ct_refused_p (by decide)) (mm_fit_of cbX8_refused (by decide) (by decide)) wq922 cvX8_refused wv14 rfl rfl rfl (Nat.le_of_ble_eq_true rfl) (by decide) (by decide) rfl dX8_set_113 ?_
        obtain ⟨o2, ho2⟩ : ∃ z, z = (wd_w o 12 1 1) := ⟨_, rfl⟩
        rw [← ho2]
        have Go2 : cg (o2.1 8) n m := by rw [ho2]; rw [wd_w_row, row_ne _ _ (by decide)]; exact G
        refine aw_if_eq (tgt := 121) (by decide) dX8_set_116 (fun z => absurd z (by decide)) (fun _ => ?_)
        refine aw_iconst (v := 0) (by decide) dX8_set_119 ?_
        exact aw_iret rfl (by decide) (by decide) dX8_set_120 ⟨by (subst ho2; first | with_reducible rfl | (simp [rf_set0, cs_isCode, mS, mS_8, oI, mR, oI, mR, wd_w_row, row_self, row_row, k1, w2, zw2]; done) | (simp_all [rf_set0, cs_isCode, mS, mS_8, oI, mR, oI, mR, wd_w_row, row_self, row_row, k1, w2, zw2]; done) | (simp only [wd_w_row, row_self, row_row, i32_add0] at *; simp [rf_set0, cs_isCode, mS, mS_8, oI, mR, oI, mR, wd_w_row, row_self, row_row, k1, w2, zw2]; done)), by (subst ho2; first | with_reducible rfl | (simp [rf_set0, cs_isCode, mS, mS_8, oI, mR, oI, mR, wd_w_row, row_self, row_row, k1, w2, zw2]; done) | (simp_all [rf_set0, cs_isCode, mS, mS_8, oI, mR, oI, mR, wd_w_row, row_self, row_row, k1, w2, zw2]; done) | (simp only [wd_w_row, row_self, row_row, i32_add0] at *; simp [rf_set0, cs_isCode, mS, mS_8, oI, mR, oI, mR, wd_w_row, row_self, row_row, k1, w2, zw2]; done))⟩
      · skip
        refine aw_rS (As := [.int v, .int 1, .int 14]) (S := []) (v := some (.int 1)) (o2 := o) (ct_within_in w2 zw2) (mm_fit_of cbX8_within (by decide) (by decide)) wq938 wq939 rfl rfl (Nat.le_of_ble_eq_true rfl) (by decide) (by decide) rfl dX8_set_15 ?_
        refine aw_goto (tgt := 55) (by decide) dX8_set_18 ?_
        refine aw_istore (L2 := [some (.ref (ad 14 0 0)), some (.int x), some (.int 0), some (.int v), some (.int 0), some (.int 1), none]) (by decide) rfl rfl dX8_set_55 ?_
        refine aw_aload_n (x := ad 14 0 0) rfl dX8_set_57 ?_
        refine aw_iload (x := 0) rfl dX8_set_58 ?_
        refine aw_if_ne (tgt := 67) (by decide) dX8_set_60 (fun z => absurd z (by decide)) (fun _ => ?_)
        refine aw_iconst (v := 1) (by decide) dX8_set_63 ?_
        refine aw_goto (tgt := 113) (by decide) dX8_set_64 ?_
        refine aw_rV (As := [.int 1]) (S := []) (v := some (.int 1)) (o2 := (wd_w o 12 1 1)) (ct_refused_p (by decide)) (mm_fit_of cbX8_refused (by decide) (by decide)) wq922 cvX8_refused wv14 rfl rfl rfl (Nat.le_of_ble_eq_true rfl) (by decide) (by decide) rfl dX8_set_113 ?_
        obtain ⟨o3, ho3⟩ : ∃ z, z = (wd_w o 12 1 1) := ⟨_, rfl⟩
        rw [← ho3]
        have Go3 : cg (o3.1 8) n m := by rw [ho3]; rw [wd_w_row, row_ne _ _ (by decide)]; exact G
        refine aw_if_eq (tgt := 121) (by decide) dX8_set_116 (fun z => absurd z (by decide)) (fun _ => ?_)
        refine aw_iconst (v := 0) (by decide) dX8_set_119 ?_
        exact aw_iret rfl (by decide) (by decide) dX8_set_120 ⟨by (subst ho3; first | with_reducible rfl | (simp [rf_set0, cs_isCode, mS, mS_8, oI, mR, oI, mR, wd_w_row, row_self, row_row, k1, w2, zw2]; done) | (simp_all [rf_set0, cs_isCode, mS, mS_8, oI, mR, oI, mR, wd_w_row, row_self, row_row, k1, w2, zw2]; done) | (simp only [wd_w_row, row_self, row_row, i32_add0] at *; simp [rf_set0, cs_isCode, mS, mS_8, oI, mR, oI, mR, wd_w_row, row_self, row_row, k1, w2, zw2]; done)), by (subst ho3; first | with_reducible rfl | (simp [rf_set0, cs_isCode, mS, mS_8, oI, mR, oI, mR, wd_w_row, row_self, row_row, k1, w2, zw2]; done) | (simp_all [rf_set0, cs_isCode, mS, mS_8, oI, mR, oI, mR, wd_w_row, row_self, row_row, k1, w2, zw2]; done) | (simp only [wd_w_row, row_self, row_row, i32_add0] at *; simp [rf_set0, cs_isCode, mS, mS_8, oI, mR, oI, mR, wd_w_row, row_self, row_row, k1, w2, zw2]; done))⟩
  · skip
    obtain ⟨rfl, k1l⟩ := lk_some k1
    have k1b : s < 16 := by omega
    refine aw_rV (As := [.int (nI s)]) (S := []) (v := some (.int 1)) (o2 := o) (ct_X8_isOne_some G k1) (mm_fit_of cbX8_isOne (by decide) (by decide)) wq961 cvX8_isOne wv14 rfl rfl rfl (Nat.le_of_ble_eq_true rfl) (by decide) (by decide) rfl dX8_set_2 ?_
    obtain ⟨lh, hlh, hh⟩ := G.2.2.2.2.1 s k1l
    have hlh5 : lh < 5 := by omega
    have hme : hm (o.1 8) s = lh := hm_of hh hlh5
    refine aw_istore (L2 := [some (.ref (ad 14 0 0)), some (.int (nI s)), some (.int 0), some (.int v), some (.int 1), none, none]) (by decide) rfl rfl dX8_set_5 ?_
    refine aw_iload_n (x := 0) rfl dX8_set_7 ?_
    refine aw_if_ne (tgt := 21) (by decide) dX8_set_8 (fun z => absurd z (by decide)) (fun _ => ?_)
    refine aw_iload_n (x := v) rfl dX8_set_11 ?_
    refine aw_iconst (v := 1) (by decide) dX8_set_12 ?_
    refine aw_bipush (v := 14) (by decide) dX8_set_13 ?_
    by_cases w3 : v < 1
    · skip
      refine aw_rS (As := [.int v, .int 1, .int 14]) (S := []) (v := some (.int 0)) (o2 := o) (ct_within_lo w3) (mm_fit_of cbX8_within (by decide) (by decide)) wq938 wq939 rfl rfl (Nat.le_of_ble_eq_true rfl) (by decide) (by decide) rfl dX8_set_15 ?_
      refine aw_goto (tgt := 55) (by decide) dX8_set_18 ?_
      refine aw_istore (L2 := [some (.ref (ad 14 0 0)), some (.int (nI s)), some (.int 0), some (.int v), some (.int 1), some (.int 0), none]) (by decide) rfl rfl dX8_set_55 ?_
      refine aw_aload_n (x := ad 14 0 0) rfl dX8_set_57 ?_
      refine aw_iload (x := 1) rfl dX8_set_58 ?_
      refine aw_if_ne (tgt := 67) (by decide) dX8_set_60 (fun _ => ?_) (fun z => absurd z (by decide))
      refine aw_iload (x := 0) rfl dX8_set_67 ?_
      refine aw_if_ne (tgt := 76) (by decide) dX8_set_69 (fun z => absurd z (by decide)) (fun _ => ?_)
      refine aw_iconst (v := 2) (by decide) dX8_set_72 ?_
      refine aw_goto (tgt := 113) (by decide) dX8_set_73 ?_
      refine aw_rV (As := [.int 2]) (S := []) (v := some (.int 1)) (o2 := (wd_w o 12 1 2)) (ct_refused_p (by decide)) (mm_fit_of cbX8_refused (by decide) (by decide)) wq922 cvX8_refused wv14 rfl rfl rfl (Nat.le_of_ble_eq_true rfl) (by decide) (by decide) rfl dX8_set_113 ?_
      obtain ⟨o4, ho4⟩ : ∃ z, z = (wd_w o 12 1 2) := ⟨_, rfl⟩
      rw [← ho4]
      have Go4 : cg (o4.1 8) n m := by rw [ho4]; rw [wd_w_row, row_ne _ _ (by decide)]; exact G
      have hho4 : o4.1 8 (101 + 8 * s + 1) = nI lh := by rw [ho4]; rw [wd_w_row, row_ne _ _ (by decide)]; exact hh
      refine aw_if_eq (tgt := 121) (by decide) dX8_set_116 (fun z => absurd z (by decide)) (fun _ => ?_)
      refine aw_iconst (v := 0) (by decide) dX8_set_119 ?_
      exact aw_iret rfl (by decide) (by decide) dX8_set_120 ⟨by (subst ho4; first | with_reducible rfl | (simp [rf_set0, cs_isCode, mS, mS_8, oI, mR, oI, mR, wd_w_row, row_self, row_row, k1, hme, w3]; done) | (simp_all [rf_set0, cs_isCode, mS, mS_8, oI, mR, oI, mR, wd_w_row, row_self, row_row, k1, hme, w3]; done) | (simp only [wd_w_row, row_self, row_row, i32_add0] at *; simp [rf_set0, cs_isCode, mS, mS_8, oI, mR, oI, mR, wd_w_row, row_self, row_row, k1, hme, w3]; done)), by (subst ho4; first | with_reducible rfl | (simp [rf_set0, cs_isCode, mS, mS_8, oI, mR, oI, mR, wd_w_row, row_self, row_row, k1, hme, w3]; done) | (simp_all [rf_set0, cs_isCode, mS, mS_8, oI, mR, oI, mR, wd_w_row, row_self, row_row, k1, hme, w3]; done) | (simp only [wd_w_row, row_self, row_row, i32_add0] at *; simp [rf_set0, cs_isCode, mS, mS_8, oI, mR, oI, mR, wd_w_row, row_self, row_row, k1, hme, w3]; done))⟩
    · skip
      by_cases zw3 : v > 14
      · skip
        refine aw_rS (As := [.int v, .int 1, .int 14]) (S := []) (v := some (.int 0)) (o2 := o) (ct_within_hi zw3) (mm_fit_of cbX8_within (by decide) (by decide)) wq938 wq939 rfl rfl (Nat.le_of_ble_eq_true rfl) (by decide) (by decide) rfl dX8_set_15 ?_
        refine aw_goto (tgt := 55) (by decide) dX8_set_18 ?_
        refine aw_istore (L2 := [some (.ref (ad 14 0 0)), some (.int (nI s)), some (.int 0), some (.int v), some (.int 1), some (.int 0), none]) (by decide) rfl rfl dX8_set_55 ?_
        refine aw_aload_n (x := ad 14 0 0) rfl dX8_set_57 ?_
        refine aw_iload (x := 1) rfl dX8_set_58 ?_
        refine aw_if_ne (tgt := 67) (by decide) dX8_set_60 (fun _ => ?_) (fun z => absurd z (by decide))
        refine aw_iload (x := 0) rfl dX8_set_67 ?_
        refine aw_if_ne (tgt := 76) (by decide) dX8_set_69 (fun z => absurd z (by decide)) (fun _ => ?_)
        refine aw_iconst (v := 2) (by decide) dX8_set_72 ?_
        refine aw_goto (tgt := 113) (by decide) dX8_set_73 ?_
        refine aw_rV (As := [.int 2]) (S := []) (v := some (.int 1)) (o2 := (wd_w o 12 1 2)) (ct_refused_p (by decide)) (mm_fit_of cbX8_refused (by decide) (by decide)) wq922 cvX8_refused wv14 rfl rfl rfl (Nat.le_of_ble_eq_true rfl) (by decide) (by decide) rfl dX8_set_113 ?_
        obtain ⟨o5, ho5⟩ : ∃ z, z = (wd_w o 12 1 2) := ⟨_, rfl⟩
        rw [← ho5]
        have Go5 : cg (o5.1 8) n m := by rw [ho5]; rw [wd_w_row, row_ne _ _ (by decide)]; exact G
        have hho5 : o5.1 8 (101 + 8 * s + 1) = nI lh := by rw [ho5]; rw [wd_w_row, row_ne _ _ (by decide)]; exact hh
        refine aw_if_eq (tgt := 121) (by decide) dX8_set_116 (fun z => absurd z (by decide)) (fun _ => ?_)
        refine aw_iconst (v := 0) (by decide) dX8_set_119 ?_
        exact aw_iret rfl (by decide) (by decide) dX8_set_120 ⟨by (subst ho5; first | with_reducible rfl | (simp [rf_set0, cs_isCode, mS, mS_8, oI, mR, oI, mR, wd_w_row, row_self, row_row, k1, hme, w3, zw3]; done) | (simp_all [rf_set0, cs_isCode, mS, mS_8, oI, mR, oI, mR, wd_w_row, row_self, row_row, k1, hme, w3, zw3]; done) | (simp only [wd_w_row, row_self, row_row, i32_add0] at *; simp [rf_set0, cs_isCode, mS, mS_8, oI, mR, oI, mR, wd_w_row, row_self, row_row, k1, hme, w3, zw3]; done)), by (subst ho5; first | with_reducible rfl | (simp [rf_set0, cs_isCode, mS, mS_8, oI, mR, oI, mR, wd_w_row, row_self, row_row, k1, hme, w3, zw3]; done) | (simp_all [rf_set0, cs_isCode, mS, mS_8, oI, mR, oI, mR, wd_w_row, row_self, row_row, k1, hme, w3, zw3]; done) | (simp only [wd_w_row, row_self, row_row, i32_add0] at *; simp [rf_set0, cs_isCode, mS, mS_8, oI, mR, oI, mR, wd_w_row, row_self, row_row, k1, hme, w3, zw3]; done))⟩
      · skip
        refine aw_rS (As := [.int v, .int 1, .int 14]) (S := []) (v := some (.int 1)) (o2 := o) (ct_within_in w3 zw3) (mm_fit_of cbX8_within (by decide) (by decide)) wq938 wq939 rfl rfl (Nat.le_of_ble_eq_true rfl) (by decide) (by decide) rfl dX8_set_15 ?_
        refine aw_goto (tgt := 55) (by decide) dX8_set_18 ?_
        refine aw_istore (L2 := [some (.ref (ad 14 0 0)), some (.int (nI s)), some (.int 0), some (.int v), some (.int 1), some (.int 1), none]) (by decide) rfl rfl dX8_set_55 ?_
        refine aw_aload_n (x := ad 14 0 0) rfl dX8_set_57 ?_
        refine aw_iload (x := 1) rfl dX8_set_58 ?_
        refine aw_if_ne (tgt := 67) (by decide) dX8_set_60 (fun _ => ?_) (fun z => absurd z (by decide))
        refine aw_iload (x := 1) rfl dX8_set_67 ?_
        refine aw_if_ne (tgt := 76) (by decide) dX8_set_69 (fun _ => ?_) (fun z => absurd z (by decide))
        refine aw_iload_n (x := 0) rfl dX8_set_76 ?_
        refine aw_if_ne (tgt := 112) (by decide) dX8_set_77 (fun z => absurd z (by decide)) (fun _ => ?_)
        refine aw_aload_n (x := ad 14 0 0) rfl dX8_set_80 ?_
        refine aw_aload_n (x := ad 14 0 0) rfl dX8_set_81 ?_
        refine aw_iload_n (x := (nI s)) rfl dX8_set_82 ?_
        refine aw_iconst (v := 0) (by decide) dX8_set_83 ?_
        refine aw_rV (As := [.int (nI s), .int 0]) (S := [.ref (ad 14 0 0), .ref (ad 14 0 0)]) (v := some (.int (nI lh))) (o2 := o) (RTv (ct_X8_its (s := s) (w := 0) (by omega) (by decide)) hh) (mm_fit_of cbX8_its (by decide) (by decide)) wq949 cvX8_its wv14 rfl rfl rfl (Nat.le_of_ble_eq_true rfl) (by decide) (by decide) rfl dX8_set_84 ?_
        refine aw_iload_n (x := v) rfl dX8_set_87 ?_
        refine aw_iload_n (x := (nI s)) rfl dX8_set_88 ?_
        refine aw_rV (As := [.int (nI lh), .int v, .int (nI s)]) (S := [.ref (ad 14 0 0)]) (v := some (.int (orF (mf_tk (o.1 8) lh v (nI s)) m 0))) (o2 := o) (ct_X8_isTaken G (by omega)) (mm_fit_of cbX8_isTaken (by decide) (by decide)) wq945 cvX8_isTaken wv14 rfl rfl rfl (Nat.le_of_ble_eq_true rfl) (by decide) (by decide) rfl dX8_set_89 ?_
        refine aw_if_ne (tgt := 108) (by decide) dX8_set_92 (fun b4 => ?_) (fun b4 => ?_)
        · skip
          refine aw_iconst (v := 3) (by decide) dX8_set_108 ?_
          refine aw_goto (tgt := 113) (by decide) dX8_set_109 ?_
          refine aw_rV (As := [.int 3]) (S := []) (v := some (.int 1)) (o2 := (wd_w o 12 1 3)) (ct_refused_p (by decide)) (mm_fit_of cbX8_refused (by decide) (by decide)) wq922 cvX8_refused wv14 rfl rfl rfl (Nat.le_of_ble_eq_true rfl) (by decide) (by decide) rfl dX8_set_113 ?_
          obtain ⟨o6, ho6⟩ : ∃ z, z = (wd_w o 12 1 3) := ⟨_, rfl⟩
          rw [← ho6]
          have Go6 : cg (o6.1 8) n m := by rw [ho6]; rw [wd_w_row, row_ne _ _ (by decide)]; exact G
          have hho6 : o6.1 8 (101 + 8 * s + 1) = nI lh := by rw [ho6]; rw [wd_w_row, row_ne _ _ (by decide)]; exact hh
          refine aw_if_eq (tgt := 121) (by decide) dX8_set_116 (fun z => absurd z (by decide)) (fun _ => ?_)
          refine aw_iconst (v := 0) (by decide) dX8_set_119 ?_
          exact aw_iret rfl (by decide) (by decide) dX8_set_120 ⟨by (subst ho6; first | with_reducible rfl | (simp [rf_set0, cs_isCode, mS, mS_8, oI, mR, oI, mR, wd_w_row, row_self, row_row, k1, hme, w3, zw3, b4]; done) | (simp_all [rf_set0, cs_isCode, mS, mS_8, oI, mR, oI, mR, wd_w_row, row_self, row_row, k1, hme, w3, zw3, b4]; done) | (simp only [wd_w_row, row_self, row_row, i32_add0] at *; simp [rf_set0, cs_isCode, mS, mS_8, oI, mR, oI, mR, wd_w_row, row_self, row_row, k1, hme, w3, zw3, b4]; done)), by (subst ho6; first | with_reducible rfl | (simp [rf_set0, cs_isCode, mS, mS_8, oI, mR, oI, mR, wd_w_row, row_self, row_row, k1, hme, w3, zw3, b4]; done) | (simp_all [rf_set0, cs_isCode, mS, mS_8, oI, mR, oI, mR, wd_w_row, row_self, row_row, k1, hme, w3, zw3, b4]; done) | (simp only [wd_w_row, row_self, row_row, i32_add0] at *; simp [rf_set0, cs_isCode, mS, mS_8, oI, mR, oI, mR, wd_w_row, row_self, row_row, k1, hme, w3, zw3, b4]; done))⟩
        · skip
          refine aw_aload_n (x := ad 14 0 0) rfl dX8_set_95 ?_
          refine aw_aload_n (x := ad 14 0 0) rfl dX8_set_96 ?_
          refine aw_iload_n (x := (nI s)) rfl dX8_set_97 ?_
          refine aw_iconst (v := 0) (by decide) dX8_set_98 ?_
          refine aw_rV (As := [.int (nI s), .int 0]) (S := [.ref (ad 14 0 0), .ref (ad 14 0 0)]) (v := some (.int (nI lh))) (o2 := o) (RTv (ct_X8_its (s := s) (w := 0) (by omega) (by decide)) hh) (mm_fit_of cbX8_its (by decide) (by decide)) wq949 cvX8_its wv14 rfl rfl rfl (Nat.le_of_ble_eq_true rfl) (by decide) (by decide) rfl dX8_set_99 ?_
          refine aw_rV (As := [.int (nI lh)]) (S := [.ref (ad 14 0 0)]) (v := some (.int (mf_rung (o.1 8) lh))) (o2 := o) (ct_X8_isRung G (by omega)) (mm_fit_of cbX8_isRung (by decide) (by decide)) wq965 cvX8_isRung wv14 rfl rfl rfl (Nat.le_of_ble_eq_true rfl) (by decide) (by decide) rfl dX8_set_102 ?_
          refine aw_if_eq (tgt := 112) (by decide) dX8_set_105 (fun b5 => ?_) (fun b5 => ?_)
          · skip
            refine aw_iconst (v := 0) (by decide) dX8_set_112 ?_
            refine aw_rV (As := [.int 0]) (S := []) (v := some (.int 0)) (o2 := (wd_w o 12 1 0)) (ct_refused_0) (mm_fit_of cbX8_refused (by decide) (by decide)) wq922 cvX8_refused wv14 rfl rfl rfl (Nat.le_of_ble_eq_true rfl) (by decide) (by decide) rfl dX8_set_113 ?_
            obtain ⟨o7, ho7⟩ : ∃ z, z = (wd_w o 12 1 0) := ⟨_, rfl⟩
            rw [← ho7]
            have Go7 : cg (o7.1 8) n m := by rw [ho7]; rw [wd_w_row, row_ne _ _ (by decide)]; exact G
            have hho7 : o7.1 8 (101 + 8 * s + 1) = nI lh := by rw [ho7]; rw [wd_w_row, row_ne _ _ (by decide)]; exact hh
            refine aw_if_eq (tgt := 121) (by decide) dX8_set_116 (fun _ => ?_) (fun z => absurd z (by decide))
            refine aw_aload_n (x := ad 14 0 0) rfl dX8_set_121 ?_
            refine aw_rV (As := []) (S := []) (v := none) (o2 := (ms_sv o7 c)) (ct_X8_saves (by rw [ho7, wd_get, if_neg (by decide)]; exact hk) hc) (mm_fit_of cbX8_saves (by decide) (by decide)) wq930 cvX8_saves wv14 rfl rfl rfl (Nat.le_of_ble_eq_true rfl) (by decide) (by decide) rfl dX8_set_122 ?_
            obtain ⟨o8, ho8⟩ : ∃ z, z = (ms_sv o7 c) := ⟨_, rfl⟩
            rw [← ho8]
            have Go8 : cg (o8.1 8) n m := by rw [ho8]; rw [msv_ne (by decide) (by decide)]; exact Go7
            have hho7o8 : o8.1 8 (101 + 8 * s + 1) = nI lh := by rw [ho8]; rw [msv_ne (by decide) (by decide)]; exact hho7
            refine aw_aload_n (x := ad 14 0 0) rfl dX8_set_125 ?_
            refine aw_iload_n (x := (nI s)) rfl dX8_set_126 ?_
            refine aw_iconst (v := 2) (by decide) dX8_set_127 ?_
            refine aw_iload_n (x := 0) rfl dX8_set_128 ?_
            refine aw_iaddz (z := 2) (by decide) dX8_set_129 ?_
            refine aw_rV (As := [.int (nI s), .int 2]) (S := []) (v := some (.int (o8.1 8 (101 + 8 * s + 3)))) (o2 := o8) (ct_X8_its (s := s) (w := 2) (by omega) (by decide)) (mm_fit_of cbX8_its (by decide) (by decide)) wq949 cvX8_its wv14 rfl rfl rfl (Nat.le_of_ble_eq_true rfl) (by decide) (by decide) rfl dX8_set_130 ?_
            refine aw_istore (L2 := [some (.ref (ad 14 0 0)), some (.int (nI s)), some (.int 0), some (.int v), some (.int 1), some (.int 1), some (.int (o8.1 8 (101 + 8 * s + 3)))]) (by decide) rfl rfl dX8_set_133 ?_
            refine aw_aload_n (x := ad 14 0 0) rfl dX8_set_135 ?_
            refine aw_iload_n (x := (nI s)) rfl dX8_set_136 ?_
            refine aw_iconst (v := 2) (by decide) dX8_set_137 ?_
            refine aw_iload_n (x := 0) rfl dX8_set_138 ?_
            refine aw_iaddz (z := 2) (by decide) dX8_set_139 ?_
            refine aw_iload_n (x := v) rfl dX8_set_140 ?_
            refine aw_rV (As := [.int (nI s), .int 2, .int v]) (S := []) (v := none) (o2 := (wd_w o8 8 (101 + 8 * s + 3) v)) (ct_X8_give (s := s) (w := 2) (by omega) (by decide)) (mm_fit_of cbX8_give (by decide) (by decide)) wq953 cvX8_give wv14 rfl rfl rfl (Nat.le_of_ble_eq_true rfl) (by decide) (by decide) rfl dX8_set_141 ?_
            refine aw_iload (x := (o8.1 8 (101 + 8 * s + 3))) rfl dX8_set_144 ?_
            exact aw_iret rfl (by decide) (by decide) dX8_set_146 ⟨by (subst ho8; subst ho7; first | with_reducible rfl | (simp [rf_set0, cs_isCode, mS, mS_8, oI, mR, oI, mR, wd_w_row, row_self, row_row, k1, hme, w3, zw3, b4, b5]; done) | (simp_all [rf_set0, cs_isCode, mS, mS_8, oI, mR, oI, mR, wd_w_row, row_self, row_row, k1, hme, w3, zw3, b4, b5]; done) | (simp only [wd_w_row, row_self, row_row, i32_add0] at *; simp [rf_set0, cs_isCode, mS, mS_8, oI, mR, oI, mR, wd_w_row, row_self, row_row, k1, hme, w3, zw3, b4, b5]; done)), by (subst ho8; subst ho7; first | with_reducible rfl | (simp [rf_set0, cs_isCode, mS, mS_8, oI, mR, oI, mR, wd_w_row, row_self, row_row, k1, hme, w3, zw3, b4, b5]; done) | (simp_all [rf_set0, cs_isCode, mS, mS_8, oI, mR, oI, mR, wd_w_row, row_self, row_row, k1, hme, w3, zw3, b4, b5]; done) | (simp only [wd_w_row, row_self, row_row, i32_add0] at *; simp [rf_set0, cs_isCode, mS, mS_8, oI, mR, oI, mR, wd_w_row, row_self, row_row, k1, hme, w3, zw3, b4, b5]; done))⟩
          · skip
            refine aw_iconst (v := 3) (by decide) dX8_set_108 ?_
            refine aw_goto (tgt := 113) (by decide) dX8_set_109 ?_
            refine aw_rV (As := [.int 3]) (S := []) (v := some (.int 1)) (o2 := (wd_w o 12 1 3)) (ct_refused_p (by decide)) (mm_fit_of cbX8_refused (by decide) (by decide)) wq922 cvX8_refused wv14 rfl rfl rfl (Nat.le_of_ble_eq_true rfl) (by decide) (by decide) rfl dX8_set_113 ?_
            obtain ⟨o9, ho9⟩ : ∃ z, z = (wd_w o 12 1 3) := ⟨_, rfl⟩
            rw [← ho9]
            have Go9 : cg (o9.1 8) n m := by rw [ho9]; rw [wd_w_row, row_ne _ _ (by decide)]; exact G
            have hho9 : o9.1 8 (101 + 8 * s + 1) = nI lh := by rw [ho9]; rw [wd_w_row, row_ne _ _ (by decide)]; exact hh
            refine aw_if_eq (tgt := 121) (by decide) dX8_set_116 (fun z => absurd z (by decide)) (fun _ => ?_)
            refine aw_iconst (v := 0) (by decide) dX8_set_119 ?_
            exact aw_iret rfl (by decide) (by decide) dX8_set_120 ⟨by (subst ho9; first | with_reducible rfl | (simp [rf_set0, cs_isCode, mS, mS_8, oI, mR, oI, mR, wd_w_row, row_self, row_row, k1, hme, w3, zw3, b4, b5]; done) | (simp_all [rf_set0, cs_isCode, mS, mS_8, oI, mR, oI, mR, wd_w_row, row_self, row_row, k1, hme, w3, zw3, b4, b5]; done) | (simp only [wd_w_row, row_self, row_row, i32_add0] at *; simp [rf_set0, cs_isCode, mS, mS_8, oI, mR, oI, mR, wd_w_row, row_self, row_row, k1, hme, w3, zw3, b4, b5]; done)), by (subst ho9; first | with_reducible rfl | (simp [rf_set0, cs_isCode, mS, mS_8, oI, mR, oI, mR, wd_w_row, row_self, row_row, k1, hme, w3, zw3, b4, b5]; done) | (simp_all [rf_set0, cs_isCode, mS, mS_8, oI, mR, oI, mR, wd_w_row, row_self, row_row, k1, hme, w3, zw3, b4, b5]; done) | (simp only [wd_w_row, row_self, row_row, i32_add0] at *; simp [rf_set0, cs_isCode, mS, mS_8, oI, mR, oI, mR, wd_w_row, row_self, row_row, k1, hme, w3, zw3, b4, b5]; done))⟩
theorem rt_set1 {ad : Nat → Nat → Nat → Nat} {o : wd_S} {n m c : Nat} (V : mv o n m c) {x v : Int32} : CT ad MX8_set [.ref (ad 14 0 0), .int x, .int 1, .int v] o (OT (rf_set1 o m c x v)) := by
  obtain ⟨G, hk, hc⟩ := id V
  obtain ⟨g1, g2, g3, g4, g5, g6⟩ := id G
  refine CT.of (L := [some (.ref (ad 14 0 0)), some (.int x), some (.int 1), some (.int v), none, none, none]) rfl rfl (by decide) (Nat.le_of_ble_eq_true rfl) rfl ?_
  refine aw_aload_n (x := ad 14 0 0) rfl dX8_set_0 ?_
  refine aw_iload_n (x := x) rfl dX8_set_1 ?_
  rcases k1 : lk m x with _ | s
  · skip
    refine aw_rV (As := [.int x]) (S := []) (v := some (.int 0)) (o2 := o) (ct_X8_isOne_none G k1) (mm_fit_of cbX8_isOne (by decide) (by decide)) wq961 cvX8_isOne wv14 rfl rfl rfl (Nat.le_of_ble_eq_true rfl) (by decide) (by decide) rfl dX8_set_2 ?_
    refine aw_istore (L2 := [some (.ref (ad 14 0 0)), some (.int x), some (.int 1), some (.int v), some (.int 0), none, none]) (by decide) rfl rfl dX8_set_5 ?_
    refine aw_iload_n (x := 1) rfl dX8_set_7 ?_
    refine aw_if_ne (tgt := 21) (by decide) dX8_set_8 (fun _ => ?_) (fun z => absurd z (by decide))
    refine aw_iload_n (x := 1) rfl dX8_set_21 ?_
    refine aw_iconst (v := 1) (by decide) dX8_set_22 ?_
    refine aw_icmp_ne (tgt := 35) (by decide) dX8_set_23 (fun z => absurd z (by decide)) (fun _ => ?_)
    refine aw_iload_n (x := v) rfl dX8_set_26 ?_
    refine aw_iconst (v := 0) (by decide) dX8_set_27 ?_
    refine aw_iconst (v := 1) (by decide) dX8_set_28 ?_
    by_cases w2 : v < 0
    · skip
      refine aw_rS (As := [.int v, .int 0, .int 1]) (S := []) (v := some (.int 0)) (o2 := o) (ct_within_lo w2) (mm_fit_of cbX8_within (by decide) (by decide)) wq938 wq939 rfl rfl (Nat.le_of_ble_eq_true rfl) (by decide) (by decide) rfl dX8_set_29 ?_
      refine aw_goto (tgt := 55) (by decide) dX8_set_32 ?_
      refine aw_istore (L2 := [some (.ref (ad 14 0 0)), some (.int x), some (.int 1), some (.int v), some (.int 0), some (.int 0), none]) (by decide) rfl rfl dX8_set_55 ?_
      refine aw_aload_n (x := ad 14 0 0) rfl dX8_set_57 ?_
      refine aw_iload (x := 0) rfl dX8_set_58 ?_
      refine aw_if_ne (tgt := 67) (by decide) dX8_set_60 (fun z => absurd z (by decide)) (fun _ => ?_)
      refine aw_iconst (v := 1) (by decide) dX8_set_63 ?_
      refine aw_goto (tgt := 113) (by decide) dX8_set_64 ?_
      refine aw_rV (As := [.int 1]) (S := []) (v := some (.int 1)) (o2 := (wd_w o 12 1 1)) (ct_refused_p (by decide)) (mm_fit_of cbX8_refused (by decide) (by decide)) wq922 cvX8_refused wv14 rfl rfl rfl (Nat.le_of_ble_eq_true rfl) (by decide) (by decide) rfl dX8_set_113 ?_
      obtain ⟨o1, ho1⟩ : ∃ z, z = (wd_w o 12 1 1) := ⟨_, rfl⟩
      rw [← ho1]
      have Go1 : cg (o1.1 8) n m := by rw [ho1]; rw [wd_w_row, row_ne _ _ (by decide)]; exact G
      refine aw_if_eq (tgt := 121) (by decide) dX8_set_116 (fun z => absurd z (by decide)) (fun _ => ?_)
      refine aw_iconst (v := 0) (by decide) dX8_set_119 ?_
      exact aw_iret rfl (by decide) (by decide) dX8_set_120 ⟨by (subst ho1; first | with_reducible rfl | (simp [rf_set1, cs_isCode, mS, mS_8, oI, mR, oI, mR, wd_w_row, row_self, row_row, k1, w2]; done) | (simp_all [rf_set1, cs_isCode, mS, mS_8, oI, mR, oI, mR, wd_w_row, row_self, row_row, k1, w2]; done) | (simp only [wd_w_row, row_self, row_row, i32_add0] at *; simp [rf_set1, cs_isCode, mS, mS_8, oI, mR, oI, mR, wd_w_row, row_self, row_row, k1, w2]; done)), by (subst ho1; first | with_reducible rfl | (simp [rf_set1, cs_isCode, mS, mS_8, oI, mR, oI, mR, wd_w_row, row_self, row_row, k1, w2]; done) | (simp_all [rf_set1, cs_isCode, mS, mS_8, oI, mR, oI, mR, wd_w_row, row_self, row_row, k1, w2]; done) | (simp only [wd_w_row, row_self, row_row, i32_add0] at *; simp [rf_set1, cs_isCode, mS, mS_8, oI, mR, oI, mR, wd_w_row, row_self, row_row, k1, w2]; done))⟩
    · skip
      by_cases zw2 : v > 1
      · skip
        refine aw_rS (As := [.int v, .int 0, .int 1]) (S := []) (v := some (.int 0)) (o2 := o) (ct_within_hi zw2) (mm_fit_of cbX8_within (by decide) (by decide)) wq938 wq939 rfl rfl (Nat.le_of_ble_eq_true rfl) (by decide) (by decide) rfl dX8_set_29 ?_
        refine aw_goto (tgt := 55) (by decide) dX8_set_32 ?_
        refine aw_istore (L2 := [some (.ref (ad 14 0 0)), some (.int x), some (.int 1), some (.int v), some (.int 0), some (.int 0), none]) (by decide) rfl rfl dX8_set_55 ?_
        refine aw_aload_n (x := ad 14 0 0) rfl dX8_set_57 ?_
        refine aw_iload (x := 0) rfl dX8_set_58 ?_
        refine aw_if_ne (tgt := 67) (by decide) dX8_set_60 (fun z => absurd z (by decide)) (fun _ => ?_)
        refine aw_iconst (v := 1) (by decide) dX8_set_63 ?_
        refine aw_goto (tgt := 113) (by decide) dX8_set_64 ?_
        refine aw_rV (As := [.int 1]) (S := []) (v := some (.int 1)) (o2 := (wd_w o 12 1 1)) (ct_refused_p (by decide)) (mm_fit_of cbX8_refused (by decide) (by decide)) wq922 cvX8_refused wv14 rfl rfl rfl (Nat.le_of_ble_eq_true rfl) (by decide) (by decide) rfl dX8_set_113 ?_
        obtain ⟨o2, ho2⟩ : ∃ z, z = (wd_w o 12 1 1) := ⟨_, rfl⟩
        rw [← ho2]
        have Go2 : cg (o2.1 8) n m := by rw [ho2]; rw [wd_w_row, row_ne _ _ (by decide)]; exact G
        refine aw_if_eq (tgt := 121) (by decide) dX8_set_116 (fun z => absurd z (by decide)) (fun _ => ?_)
        refine aw_iconst (v := 0) (by decide) dX8_set_119 ?_
        exact aw_iret rfl (by decide) (by decide) dX8_set_120 ⟨by (subst ho2; first | with_reducible rfl | (simp [rf_set1, cs_isCode, mS, mS_8, oI, mR, oI, mR, wd_w_row, row_self, row_row, k1, w2, zw2]; done) | (simp_all [rf_set1, cs_isCode, mS, mS_8, oI, mR, oI, mR, wd_w_row, row_self, row_row, k1, w2, zw2]; done) | (simp only [wd_w_row, row_self, row_row, i32_add0] at *; simp [rf_set1, cs_isCode, mS, mS_8, oI, mR, oI, mR, wd_w_row, row_self, row_row, k1, w2, zw2]; done)), by (subst ho2; first | with_reducible rfl | (simp [rf_set1, cs_isCode, mS, mS_8, oI, mR, oI, mR, wd_w_row, row_self, row_row, k1, w2, zw2]; done) | (simp_all [rf_set1, cs_isCode, mS, mS_8, oI, mR, oI, mR, wd_w_row, row_self, row_row, k1, w2, zw2]; done) | (simp only [wd_w_row, row_self, row_row, i32_add0] at *; simp [rf_set1, cs_isCode, mS, mS_8, oI, mR, oI, mR, wd_w_row, row_self, row_row, k1, w2, zw2]; done))⟩
      · skip
        refine aw_rS (As := [.int v, .int 0, .int 1]) (S := []) (v := some (.int 1)) (o2 := o) (ct_within_in w2 zw2) (mm_fit_of cbX8_within (by decide) (by decide)) wq938 wq939 rfl rfl (Nat.le_of_ble_eq_true rfl) (by decide) (by decide) rfl dX8_set_29 ?_
        refine aw_goto (tgt := 55) (by decide) dX8_set_32 ?_
        refine aw_istore (L2 := [some (.ref (ad 14 0 0)), some (.int x), some (.int 1), some (.int v), some (.int 0), some (.int 1), none]) (by decide) rfl rfl dX8_set_55 ?_
        refine aw_aload_n (x := ad 14 0 0) rfl dX8_set_57 ?_
        refine aw_iload (x := 0) rfl dX8_set_58 ?_
        refine aw_if_ne (tgt := 67) (by decide) dX8_set_60 (fun z => absurd z (by decide)) (fun _ => ?_)
        refine aw_iconst (v := 1) (by decide) dX8_set_63 ?_
        refine aw_goto (tgt := 113) (by decide) dX8_set_64 ?_
        refine aw_rV (As := [.int 1]) (S := []) (v := some (.int 1)) (o2 := (wd_w o 12 1 1)) (ct_refused_p (by decide)) (mm_fit_of cbX8_refused (by decide) (by decide)) wq922 cvX8_refused wv14 rfl rfl rfl (Nat.le_of_ble_eq_true rfl) (by decide) (by decide) rfl dX8_set_113 ?_
        obtain ⟨o3, ho3⟩ : ∃ z, z = (wd_w o 12 1 1) := ⟨_, rfl⟩
        rw [← ho3]
        have Go3 : cg (o3.1 8) n m := by rw [ho3]; rw [wd_w_row, row_ne _ _ (by decide)]; exact G
        refine aw_if_eq (tgt := 121) (by decide) dX8_set_116 (fun z => absurd z (by decide)) (fun _ => ?_)
        refine aw_iconst (v := 0) (by decide) dX8_set_119 ?_
        exact aw_iret rfl (by decide) (by decide) dX8_set_120 ⟨by (subst ho3; first | with_reducible rfl | (simp [rf_set1, cs_isCode, mS, mS_8, oI, mR, oI, mR, wd_w_row, row_self, row_row, k1, w2, zw2]; done) | (simp_all [rf_set1, cs_isCode, mS, mS_8, oI, mR, oI, mR, wd_w_row, row_self, row_row, k1, w2, zw2]; done) | (simp only [wd_w_row, row_self, row_row, i32_add0] at *; simp [rf_set1, cs_isCode, mS, mS_8, oI, mR, oI, mR, wd_w_row, row_self, row_row, k1, w2, zw2]; done)), by (subst ho3; first | with_reducible rfl | (simp [rf_set1, cs_isCode, mS, mS_8, oI, mR, oI, mR, wd_w_row, row_self, row_row, k1, w2, zw2]; done) | (simp_all [rf_set1, cs_isCode, mS, mS_8, oI, mR, oI, mR, wd_w_row, row_self, row_row, k1, w2, zw2]; done) | (simp only [wd_w_row, row_self, row_row, i32_add0] at *; simp [rf_set1, cs_isCode, mS, mS_8, oI, mR, oI, mR, wd_w_row, row_self, row_row, k1, w2, zw2]; done))⟩
  · skip
    obtain ⟨rfl, k1l⟩ := lk_some k1
    have k1b : s < 16 := by omega
    refine aw_rV (As := [.int (nI s)]) (S := []) (v := some (.int 1)) (o2 := o) (ct_X8_isOne_some G k1) (mm_fit_of cbX8_isOne (by decide) (by decide)) wq961 cvX8_isOne wv14 rfl rfl rfl (Nat.le_of_ble_eq_true rfl) (by decide) (by decide) rfl dX8_set_2 ?_
    obtain ⟨lh, hlh, hh⟩ := G.2.2.2.2.1 s k1l
    have hlh5 : lh < 5 := by omega
    have hme : hm (o.1 8) s = lh := hm_of hh hlh5
    refine aw_istore (L2 := [some (.ref (ad 14 0 0)), some (.int (nI s)), some (.int 1), some (.int v), some (.int 1), none, none]) (by decide) rfl rfl dX8_set_5 ?_
    refine aw_iload_n (x := 1) rfl dX8_set_7 ?_
    refine aw_if_ne (tgt := 21) (by decide) dX8_set_8 (fun _ => ?_) (fun z => absurd z (by decide))
    refine aw_iload_n (x := 1) rfl dX8_set_21 ?_
    refine aw_iconst (v := 1) (by decide) dX8_set_22 ?_
    refine aw_icmp_ne (tgt := 35) (by decide) dX8_set_23 (fun z => absurd z (by decide)) (fun _ => ?_)
    refine aw_iload_n (x := v) rfl dX8_set_26 ?_
    refine aw_iconst (v := 0) (by decide) dX8_set_27 ?_
    refine aw_iconst (v := 1) (by decide) dX8_set_28 ?_
    by_cases w3 : v < 0
    · skip
      refine aw_rS (As := [.int v, .int 0, .int 1]) (S := []) (v := some (.int 0)) (o2 := o) (ct_within_lo w3) (mm_fit_of cbX8_within (by decide) (by decide)) wq938 wq939 rfl rfl (Nat.le_of_ble_eq_true rfl) (by decide) (by decide) rfl dX8_set_29 ?_
      refine aw_goto (tgt := 55) (by decide) dX8_set_32 ?_
      refine aw_istore (L2 := [some (.ref (ad 14 0 0)), some (.int (nI s)), some (.int 1), some (.int v), some (.int 1), some (.int 0), none]) (by decide) rfl rfl dX8_set_55 ?_
      refine aw_aload_n (x := ad 14 0 0) rfl dX8_set_57 ?_
      refine aw_iload (x := 1) rfl dX8_set_58 ?_
      refine aw_if_ne (tgt := 67) (by decide) dX8_set_60 (fun _ => ?_) (fun z => absurd z (by decide))
      refine aw_iload (x := 0) rfl dX8_set_67 ?_
      refine aw_if_ne (tgt := 76) (by decide) dX8_set_69 (fun z => absurd z (by decide)) (fun _ => ?_)
      refine aw_iconst (v := 2) (by decide) dX8_set_72 ?_
      refine aw_goto (tgt := 113) (by decide) dX8_set_73 ?_
      refine aw_rV (As := [.int 2]) (S := []) (v := some (.int 1)) (o2 := (wd_w o 12 1 2)) (ct_refused_p (by decide)) (mm_fit_of cbX8_refused (by decide) (by decide)) wq922 cvX8_refused wv14 rfl rfl rfl (Nat.le_of_ble_eq_true rfl) (by decide) (by decide) rfl dX8_set_113 ?_
      obtain ⟨o4, ho4⟩ : ∃ z, z = (wd_w o 12 1 2) := ⟨_, rfl⟩
      rw [← ho4]
      have Go4 : cg (o4.1 8) n m := by rw [ho4]; rw [wd_w_row, row_ne _ _ (by decide)]; exact G
      have hho4 : o4.1 8 (101 + 8 * s + 1) = nI lh := by rw [ho4]; rw [wd_w_row, row_ne _ _ (by decide)]; exact hh
      refine aw_if_eq (tgt := 121) (by decide) dX8_set_116 (fun z => absurd z (by decide)) (fun _ => ?_)
      refine aw_iconst (v := 0) (by decide) dX8_set_119 ?_
      exact aw_iret rfl (by decide) (by decide) dX8_set_120 ⟨by (subst ho4; first | with_reducible rfl | (simp [rf_set1, cs_isCode, mS, mS_8, oI, mR, oI, mR, wd_w_row, row_self, row_row, k1, hme, w3]; done) | (simp_all [rf_set1, cs_isCode, mS, mS_8, oI, mR, oI, mR, wd_w_row, row_self, row_row, k1, hme, w3]; done) | (simp only [wd_w_row, row_self, row_row, i32_add0] at *; simp [rf_set1, cs_isCode, mS, mS_8, oI, mR, oI, mR, wd_w_row, row_self, row_row, k1, hme, w3]; done)), by (subst ho4; first | with_reducible rfl | (simp [rf_set1, cs_isCode, mS, mS_8, oI, mR, oI, mR, wd_w_row, row_self, row_row, k1, hme, w3]; done) | (simp_all [rf_set1, cs_isCode, mS, mS_8, oI, mR, oI, mR, wd_w_row, row_self, row_row, k1, hme, w3]; done) | (simp only [wd_w_row, row_self, row_row, i32_add0] at *; simp [rf_set1, cs_isCode, mS, mS_8, oI, mR, oI, mR, wd_w_row, row_self, row_row, k1, hme, w3]; done))⟩
    · skip
      by_cases zw3 : v > 1
      · skip
        refine aw_rS (As := [.int v, .int 0, .int 1]) (S := []) (v := some (.int 0)) (o2 := o) (ct_within_hi zw3) (mm_fit_of cbX8_within (by decide) (by decide)) wq938 wq939 rfl rfl (Nat.le_of_ble_eq_true rfl) (by decide) (by decide) rfl dX8_set_29 ?_
        refine aw_goto (tgt := 55) (by decide) dX8_set_32 ?_
        refine aw_istore (L2 := [some (.ref (ad 14 0 0)), some (.int (nI s)), some (.int 1), some (.int v), some (.int 1), some (.int 0), none]) (by decide) rfl rfl dX8_set_55 ?_
        refine aw_aload_n (x := ad 14 0 0) rfl dX8_set_57 ?_
        refine aw_iload (x := 1) rfl dX8_set_58 ?_
        refine aw_if_ne (tgt := 67) (by decide) dX8_set_60 (fun _ => ?_) (fun z => absurd z (by decide))
        refine aw_iload (x := 0) rfl dX8_set_67 ?_
        refine aw_if_ne (tgt := 76) (by decide) dX8_set_69 (fun z => absurd z (by decide)) (fun _ => ?_)
        refine aw_iconst (v := 2) (by decide) dX8_set_72 ?_
        refine aw_goto (tgt := 113) (by decide) dX8_set_73 ?_
        refine aw_rV (As := [.int 2]) (S := []) (v := some (.int 1)) (o2 := (wd_w o 12 1 2)) (ct_refused_p (by decide)) (mm_fit_of cbX8_refused (by decide) (by decide)) wq922 cvX8_refused wv14 rfl rfl rfl (Nat.le_of_ble_eq_true rfl) (by decide) (by decide) rfl dX8_set_113 ?_
        obtain ⟨o5, ho5⟩ : ∃ z, z = (wd_w o 12 1 2) := ⟨_, rfl⟩
        rw [← ho5]
        have Go5 : cg (o5.1 8) n m := by rw [ho5]; rw [wd_w_row, row_ne _ _ (by decide)]; exact G
        have hho5 : o5.1 8 (101 + 8 * s + 1) = nI lh := by rw [ho5]; rw [wd_w_row, row_ne _ _ (by decide)]; exact hh
        refine aw_if_eq (tgt := 121) (by decide) dX8_set_116 (fun z => absurd z (by decide)) (fun _ => ?_)
        refine aw_iconst (v := 0) (by decide) dX8_set_119 ?_
        exact aw_iret rfl (by decide) (by decide) dX8_set_120 ⟨by (subst ho5; first | with_reducible rfl | (simp [rf_set1, cs_isCode, mS, mS_8, oI, mR, oI, mR, wd_w_row, row_self, row_row, k1, hme, w3, zw3]; done) | (simp_all [rf_set1, cs_isCode, mS, mS_8, oI, mR, oI, mR, wd_w_row, row_self, row_row, k1, hme, w3, zw3]; done) | (simp only [wd_w_row, row_self, row_row, i32_add0] at *; simp [rf_set1, cs_isCode, mS, mS_8, oI, mR, oI, mR, wd_w_row, row_self, row_row, k1, hme, w3, zw3]; done)), by (subst ho5; first | with_reducible rfl | (simp [rf_set1, cs_isCode, mS, mS_8, oI, mR, oI, mR, wd_w_row, row_self, row_row, k1, hme, w3, zw3]; done) | (simp_all [rf_set1, cs_isCode, mS, mS_8, oI, mR, oI, mR, wd_w_row, row_self, row_row, k1, hme, w3, zw3]; done) | (simp only [wd_w_row, row_self, row_row, i32_add0] at *; simp [rf_set1, cs_isCode, mS, mS_8, oI, mR, oI, mR, wd_w_row, row_self, row_row, k1, hme, w3, zw3]; done))⟩
      · skip
        refine aw_rS (As := [.int v, .int 0, .int 1]) (S := []) (v := some (.int 1)) (o2 := o) (ct_within_in w3 zw3) (mm_fit_of cbX8_within (by decide) (by decide)) wq938 wq939 rfl rfl (Nat.le_of_ble_eq_true rfl) (by decide) (by decide) rfl dX8_set_29 ?_
        refine aw_goto (tgt := 55) (by decide) dX8_set_32 ?_
        refine aw_istore (L2 := [some (.ref (ad 14 0 0)), some (.int (nI s)), some (.int 1), some (.int v), some (.int 1), some (.int 1), none]) (by decide) rfl rfl dX8_set_55 ?_
        refine aw_aload_n (x := ad 14 0 0) rfl dX8_set_57 ?_
        refine aw_iload (x := 1) rfl dX8_set_58 ?_
        refine aw_if_ne (tgt := 67) (by decide) dX8_set_60 (fun _ => ?_) (fun z => absurd z (by decide))
        refine aw_iload (x := 1) rfl dX8_set_67 ?_
        refine aw_if_ne (tgt := 76) (by decide) dX8_set_69 (fun _ => ?_) (fun z => absurd z (by decide))
        refine aw_iload_n (x := 1) rfl dX8_set_76 ?_
        refine aw_if_ne (tgt := 112) (by decide) dX8_set_77 (fun _ => ?_) (fun z => absurd z (by decide))
        refine aw_iconst (v := 0) (by decide) dX8_set_112 ?_
        refine aw_rV (As := [.int 0]) (S := []) (v := some (.int 0)) (o2 := (wd_w o 12 1 0)) (ct_refused_0) (mm_fit_of cbX8_refused (by decide) (by decide)) wq922 cvX8_refused wv14 rfl rfl rfl (Nat.le_of_ble_eq_true rfl) (by decide) (by decide) rfl dX8_set_113 ?_
        obtain ⟨o6, ho6⟩ : ∃ z, z = (wd_w o 12 1 0) := ⟨_, rfl⟩
        rw [← ho6]
        have Go6 : cg (o6.1 8) n m := by rw [ho6]; rw [wd_w_row, row_ne _ _ (by decide)]; exact G
        have hho6 : o6.1 8 (101 + 8 * s + 1) = nI lh := by rw [ho6]; rw [wd_w_row, row_ne _ _ (by decide)]; exact hh
        refine aw_if_eq (tgt := 121) (by decide) dX8_set_116 (fun _ => ?_) (fun z => absurd z (by decide))
        refine aw_aload_n (x := ad 14 0 0) rfl dX8_set_121 ?_
        refine aw_rV (As := []) (S := []) (v := none) (o2 := (ms_sv o6 c)) (ct_X8_saves (by rw [ho6, wd_get, if_neg (by decide)]; exact hk) hc) (mm_fit_of cbX8_saves (by decide) (by decide)) wq930 cvX8_saves wv14 rfl rfl rfl (Nat.le_of_ble_eq_true rfl) (by decide) (by decide) rfl dX8_set_122 ?_
        obtain ⟨o7, ho7⟩ : ∃ z, z = (ms_sv o6 c) := ⟨_, rfl⟩
        rw [← ho7]
        have Go7 : cg (o7.1 8) n m := by rw [ho7]; rw [msv_ne (by decide) (by decide)]; exact Go6
        have hho6o7 : o7.1 8 (101 + 8 * s + 1) = nI lh := by rw [ho7]; rw [msv_ne (by decide) (by decide)]; exact hho6
        refine aw_aload_n (x := ad 14 0 0) rfl dX8_set_125 ?_
        refine aw_iload_n (x := (nI s)) rfl dX8_set_126 ?_
        refine aw_iconst (v := 2) (by decide) dX8_set_127 ?_
        refine aw_iload_n (x := 1) rfl dX8_set_128 ?_
        refine aw_iaddz (z := 3) (by decide) dX8_set_129 ?_
        refine aw_rV (As := [.int (nI s), .int 3]) (S := []) (v := some (.int (o7.1 8 (101 + 8 * s + 4)))) (o2 := o7) (ct_X8_its (s := s) (w := 3) (by omega) (by decide)) (mm_fit_of cbX8_its (by decide) (by decide)) wq949 cvX8_its wv14 rfl rfl rfl (Nat.le_of_ble_eq_true rfl) (by decide) (by decide) rfl dX8_set_130 ?_
        refine aw_istore (L2 := [some (.ref (ad 14 0 0)), some (.int (nI s)), some (.int 1), some (.int v), some (.int 1), some (.int 1), some (.int (o7.1 8 (101 + 8 * s + 4)))]) (by decide) rfl rfl dX8_set_133 ?_
        refine aw_aload_n (x := ad 14 0 0) rfl dX8_set_135 ?_
        refine aw_iload_n (x := (nI s)) rfl dX8_set_136 ?_
        refine aw_iconst (v := 2) (by decide) dX8_set_137 ?_
        refine aw_iload_n (x := 1) rfl dX8_set_138 ?_
        refine aw_iaddz (z := 3) (by decide) dX8_set_139 ?_
        refine aw_iload_n (x := v) rfl dX8_set_140 ?_
        refine aw_rV (As := [.int (nI s), .int 3, .int v]) (S := []) (v := none) (o2 := (wd_w o7 8 (101 + 8 * s + 4) v)) (ct_X8_give (s := s) (w := 3) (by omega) (by decide)) (mm_fit_of cbX8_give (by decide) (by decide)) wq953 cvX8_give wv14 rfl rfl rfl (Nat.le_of_ble_eq_true rfl) (by decide) (by decide) rfl dX8_set_141 ?_
        refine aw_iload (x := (o7.1 8 (101 + 8 * s + 4))) rfl dX8_set_144 ?_
        exact aw_iret rfl (by decide) (by decide) dX8_set_146 ⟨by (subst ho7; subst ho6; first | with_reducible rfl | (simp [rf_set1, cs_isCode, mS, mS_8, oI, mR, oI, mR, wd_w_row, row_self, row_row, k1, hme, w3, zw3]; done) | (simp_all [rf_set1, cs_isCode, mS, mS_8, oI, mR, oI, mR, wd_w_row, row_self, row_row, k1, hme, w3, zw3]; done) | (simp only [wd_w_row, row_self, row_row, i32_add0] at *; simp [rf_set1, cs_isCode, mS, mS_8, oI, mR, oI, mR, wd_w_row, row_self, row_row, k1, hme, w3, zw3]; done)), by (subst ho7; subst ho6; first | with_reducible rfl | (simp [rf_set1, cs_isCode, mS, mS_8, oI, mR, oI, mR, wd_w_row, row_self, row_row, k1, hme, w3, zw3]; done) | (simp_all [rf_set1, cs_isCode, mS, mS_8, oI, mR, oI, mR, wd_w_row, row_self, row_row, k1, hme, w3, zw3]; done) | (simp only [wd_w_row, row_self, row_row, i32_add0] at *; simp [rf_set1, cs_isCode, mS, mS_8, oI, mR, oI, mR, wd_w_row, row_self, row_row, k1, hme, w3, zw3]; done))⟩
theorem rt_set2 {ad : Nat → Nat → Nat → Nat} {o : wd_S} {n m c : Nat} (V : mv o n m c) {x v : Int32} : CT ad MX8_set [.ref (ad 14 0 0), .int x, .int 2, .int v] o (OT (rf_set2 o m c x v)) := by
  obtain ⟨G, hk, hc⟩ := id V
  obtain ⟨g1, g2, g3, g4, g5, g6⟩ := id G
  refine CT.of (L := [some (.ref (ad 14 0 0)), some (.int x), some (.int 2), some (.int v), none, none, none]) rfl rfl (by decide) (Nat.le_of_ble_eq_true rfl) rfl ?_
  refine aw_aload_n (x := ad 14 0 0) rfl dX8_set_0 ?_
  refine aw_iload_n (x := x) rfl dX8_set_1 ?_
  rcases k1 : lk m x with _ | s
  · skip
    refine aw_rV (As := [.int x]) (S := []) (v := some (.int 0)) (o2 := o) (ct_X8_isOne_none G k1) (mm_fit_of cbX8_isOne (by decide) (by decide)) wq961 cvX8_isOne wv14 rfl rfl rfl (Nat.le_of_ble_eq_true rfl) (by decide) (by decide) rfl dX8_set_2 ?_
    refine aw_istore (L2 := [some (.ref (ad 14 0 0)), some (.int x), some (.int 2), some (.int v), some (.int 0), none, none]) (by decide) rfl rfl dX8_set_5 ?_
    refine aw_iload_n (x := 2) rfl dX8_set_7 ?_
    refine aw_if_ne (tgt := 21) (by decide) dX8_set_8 (fun _ => ?_) (fun z => absurd z (by decide))
    refine aw_iload_n (x := 2) rfl dX8_set_21 ?_
    refine aw_iconst (v := 1) (by decide) dX8_set_22 ?_
    refine aw_icmp_ne (tgt := 35) (by decide) dX8_set_23 (fun _ => ?_) (fun z => absurd z (by decide))
    refine aw_iload_n (x := 2) rfl dX8_set_35 ?_
    refine aw_iconst (v := 2) (by decide) dX8_set_36 ?_
    refine aw_icmp_ne (tgt := 54) (by decide) dX8_set_37 (fun z => absurd z (by decide)) (fun _ => ?_)
    refine aw_iload_n (x := v) rfl dX8_set_40 ?_
    refine aw_iconst (v := 0) (by decide) dX8_set_41 ?_
    refine aw_bipush (v := 99) (by decide) dX8_set_42 ?_
    by_cases w2 : v < 0
    · skip
      refine aw_rS (As := [.int v, .int 0, .int 99]) (S := []) (v := some (.int 0)) (o2 := o) (ct_within_lo w2) (mm_fit_of cbX8_within (by decide) (by decide)) wq938 wq939 rfl rfl (Nat.le_of_ble_eq_true rfl) (by decide) (by decide) rfl dX8_set_44 ?_
      refine aw_if_eq (tgt := 54) (by decide) dX8_set_47 (fun _ => ?_) (fun z => absurd z (by decide))
      refine aw_iconst (v := 0) (by decide) dX8_set_54 ?_
      refine aw_istore (L2 := [some (.ref (ad 14 0 0)), some (.int x), some (.int 2), some (.int v), some (.int 0), some (.int 0), none]) (by decide) rfl rfl dX8_set_55 ?_
      refine aw_aload_n (x := ad 14 0 0) rfl dX8_set_57 ?_
      refine aw_iload (x := 0) rfl dX8_set_58 ?_
      refine aw_if_ne (tgt := 67) (by decide) dX8_set_60 (fun z => absurd z (by decide)) (fun _ => ?_)
      refine aw_iconst (v := 1) (by decide) dX8_set_63 ?_
      refine aw_goto (tgt := 113) (by decide) dX8_set_64 ?_
      refine aw_rV (As := [.int 1]) (S := []) (v := some (.int 1)) (o2 := (wd_w o 12 1 1)) (ct_refused_p (by decide)) (mm_fit_of cbX8_refused (by decide) (by decide)) wq922 cvX8_refused wv14 rfl rfl rfl (Nat.le_of_ble_eq_true rfl) (by decide) (by decide) rfl dX8_set_113 ?_
      obtain ⟨o1, ho1⟩ : ∃ z, z = (wd_w o 12 1 1) := ⟨_, rfl⟩
      rw [← ho1]
      have Go1 : cg (o1.1 8) n m := by rw [ho1]; rw [wd_w_row, row_ne _ _ (by decide)]; exact G
      refine aw_if_eq (tgt := 121) (by decide) dX8_set_116 (fun z => absurd z (by decide)) (fun _ => ?_)
      refine aw_iconst (v := 0) (by decide) dX8_set_119 ?_
      exact aw_iret rfl (by decide) (by decide) dX8_set_120 ⟨by (subst ho1; first | with_reducible rfl | (simp [rf_set2, cs_isCode, mS, mS_8, oI, mR, oI, mR, wd_w_row, row_self, row_row, k1, w2]; done) | (simp_all [rf_set2, cs_isCode, mS, mS_8, oI, mR, oI, mR, wd_w_row, row_self, row_row, k1, w2]; done) | (simp only [wd_w_row, row_self, row_row, i32_add0] at *; simp [rf_set2, cs_isCode, mS, mS_8, oI, mR, oI, mR, wd_w_row, row_self, row_row, k1, w2]; done)), by (subst ho1; first | with_reducible rfl | (simp [rf_set2, cs_isCode, mS, mS_8, oI, mR, oI, mR, wd_w_row, row_self, row_row, k1, w2]; done) | (simp_all [rf_set2, cs_isCode, mS, mS_8, oI, mR, oI, mR, wd_w_row, row_self, row_row, k1, w2]; done) | (simp only [wd_w_row, row_self, row_row, i32_add0] at *; simp [rf_set2, cs_isCode, mS, mS_8, oI, mR, oI, mR, wd_w_row, row_self, row_row, k1, w2]; done))⟩
    · skip
      by_cases zw2 : v > 99
      · skip
        refine aw_rS (As := [.int v, .int 0, .int 99]) (S := []) (v := some (.int 0)) (o2 := o) (ct_within_hi zw2) (mm_fit_of cbX8_within (by decide) (by decide)) wq938 wq939 rfl rfl (Nat.le_of_ble_eq_true rfl) (by decide) (by decide) rfl dX8_set_44 ?_
        refine aw_if_eq (tgt := 54) (by decide) dX8_set_47 (fun _ => ?_) (fun z => absurd z (by decide))
        refine aw_iconst (v := 0) (by decide) dX8_set_54 ?_
        refine aw_istore (L2 := [some (.ref (ad 14 0 0)), some (.int x), some (.int 2), some (.int v), some (.int 0), some (.int 0), none]) (by decide) rfl rfl dX8_set_55 ?_
        refine aw_aload_n (x := ad 14 0 0) rfl dX8_set_57 ?_
        refine aw_iload (x := 0) rfl dX8_set_58 ?_
        refine aw_if_ne (tgt := 67) (by decide) dX8_set_60 (fun z => absurd z (by decide)) (fun _ => ?_)
        refine aw_iconst (v := 1) (by decide) dX8_set_63 ?_
        refine aw_goto (tgt := 113) (by decide) dX8_set_64 ?_
        refine aw_rV (As := [.int 1]) (S := []) (v := some (.int 1)) (o2 := (wd_w o 12 1 1)) (ct_refused_p (by decide)) (mm_fit_of cbX8_refused (by decide) (by decide)) wq922 cvX8_refused wv14 rfl rfl rfl (Nat.le_of_ble_eq_true rfl) (by decide) (by decide) rfl dX8_set_113 ?_
        obtain ⟨o2, ho2⟩ : ∃ z, z = (wd_w o 12 1 1) := ⟨_, rfl⟩
        rw [← ho2]
        have Go2 : cg (o2.1 8) n m := by rw [ho2]; rw [wd_w_row, row_ne _ _ (by decide)]; exact G
        refine aw_if_eq (tgt := 121) (by decide) dX8_set_116 (fun z => absurd z (by decide)) (fun _ => ?_)
        refine aw_iconst (v := 0) (by decide) dX8_set_119 ?_
        exact aw_iret rfl (by decide) (by decide) dX8_set_120 ⟨by (subst ho2; first | with_reducible rfl | (simp [rf_set2, cs_isCode, mS, mS_8, oI, mR, oI, mR, wd_w_row, row_self, row_row, k1, w2, zw2]; done) | (simp_all [rf_set2, cs_isCode, mS, mS_8, oI, mR, oI, mR, wd_w_row, row_self, row_row, k1, w2, zw2]; done) | (simp only [wd_w_row, row_self, row_row, i32_add0] at *; simp [rf_set2, cs_isCode, mS, mS_8, oI, mR, oI, mR, wd_w_row, row_self, row_row, k1, w2, zw2]; done)), by (subst ho2; first | with_reducible rfl | (simp [rf_set2, cs_isCode, mS, mS_8, oI, mR, oI, mR, wd_w_row, row_self, row_row, k1, w2, zw2]; done) | (simp_all [rf_set2, cs_isCode, mS, mS_8, oI, mR, oI, mR, wd_w_row, row_self, row_row, k1, w2, zw2]; done) | (simp only [wd_w_row, row_self, row_row, i32_add0] at *; simp [rf_set2, cs_isCode, mS, mS_8, oI, mR, oI, mR, wd_w_row, row_self, row_row, k1, w2, zw2]; done))⟩
      · skip
        refine aw_rS (As := [.int v, .int 0, .int 99]) (S := []) (v := some (.int 1)) (o2 := o) (ct_within_in w2 zw2) (mm_fit_of cbX8_within (by decide) (by decide)) wq938 wq939 rfl rfl (Nat.le_of_ble_eq_true rfl) (by decide) (by decide) rfl dX8_set_44 ?_
        refine aw_if_eq (tgt := 54) (by decide) dX8_set_47 (fun z => absurd z (by decide)) (fun _ => ?_)
        refine aw_iconst (v := 1) (by decide) dX8_set_50 ?_
        refine aw_goto (tgt := 55) (by decide) dX8_set_51 ?_
        refine aw_istore (L2 := [some (.ref (ad 14 0 0)), some (.int x), some (.int 2), some (.int v), some (.int 0), some (.int 1), none]) (by decide) rfl rfl dX8_set_55 ?_
        refine aw_aload_n (x := ad 14 0 0) rfl dX8_set_57 ?_
        refine aw_iload (x := 0) rfl dX8_set_58 ?_
        refine aw_if_ne (tgt := 67) (by decide) dX8_set_60 (fun z => absurd z (by decide)) (fun _ => ?_)
        refine aw_iconst (v := 1) (by decide) dX8_set_63 ?_
        refine aw_goto (tgt := 113) (by decide) dX8_set_64 ?_
        refine aw_rV (As := [.int 1]) (S := []) (v := some (.int 1)) (o2 := (wd_w o 12 1 1)) (ct_refused_p (by decide)) (mm_fit_of cbX8_refused (by decide) (by decide)) wq922 cvX8_refused wv14 rfl rfl rfl (Nat.le_of_ble_eq_true rfl) (by decide) (by decide) rfl dX8_set_113 ?_
        obtain ⟨o3, ho3⟩ : ∃ z, z = (wd_w o 12 1 1) := ⟨_, rfl⟩
        rw [← ho3]
        have Go3 : cg (o3.1 8) n m := by rw [ho3]; rw [wd_w_row, row_ne _ _ (by decide)]; exact G
        refine aw_if_eq (tgt := 121) (by decide) dX8_set_116 (fun z => absurd z (by decide)) (fun _ => ?_)
        refine aw_iconst (v := 0) (by decide) dX8_set_119 ?_
        exact aw_iret rfl (by decide) (by decide) dX8_set_120 ⟨by (subst ho3; first | with_reducible rfl | (simp [rf_set2, cs_isCode, mS, mS_8, oI, mR, oI, mR, wd_w_row, row_self, row_row, k1, w2, zw2]; done) | (simp_all [rf_set2, cs_isCode, mS, mS_8, oI, mR, oI, mR, wd_w_row, row_self, row_row, k1, w2, zw2]; done) | (simp only [wd_w_row, row_self, row_row, i32_add0] at *; simp [rf_set2, cs_isCode, mS, mS_8, oI, mR, oI, mR, wd_w_row, row_self, row_row, k1, w2, zw2]; done)), by (subst ho3; first | with_reducible rfl | (simp [rf_set2, cs_isCode, mS, mS_8, oI, mR, oI, mR, wd_w_row, row_self, row_row, k1, w2, zw2]; done) | (simp_all [rf_set2, cs_isCode, mS, mS_8, oI, mR, oI, mR, wd_w_row, row_self, row_row, k1, w2, zw2]; done) | (simp only [wd_w_row, row_self, row_row, i32_add0] at *; simp [rf_set2, cs_isCode, mS, mS_8, oI, mR, oI, mR, wd_w_row, row_self, row_row, k1, w2, zw2]; done))⟩
  · skip
    obtain ⟨rfl, k1l⟩ := lk_some k1
    have k1b : s < 16 := by omega
    refine aw_rV (As := [.int (nI s)]) (S := []) (v := some (.int 1)) (o2 := o) (ct_X8_isOne_some G k1) (mm_fit_of cbX8_isOne (by decide) (by decide)) wq961 cvX8_isOne wv14 rfl rfl rfl (Nat.le_of_ble_eq_true rfl) (by decide) (by decide) rfl dX8_set_2 ?_
    obtain ⟨lh, hlh, hh⟩ := G.2.2.2.2.1 s k1l
    have hlh5 : lh < 5 := by omega
    have hme : hm (o.1 8) s = lh := hm_of hh hlh5
    refine aw_istore (L2 := [some (.ref (ad 14 0 0)), some (.int (nI s)), some (.int 2), some (.int v), some (.int 1), none, none]) (by decide) rfl rfl dX8_set_5 ?_
    refine aw_iload_n (x := 2) rfl dX8_set_7 ?_
    refine aw_if_ne (tgt := 21) (by decide) dX8_set_8 (fun _ => ?_) (fun z => absurd z (by decide))
    refine aw_iload_n (x := 2) rfl dX8_set_21 ?_
    refine aw_iconst (v := 1) (by decide) dX8_set_22 ?_
    refine aw_icmp_ne (tgt := 35) (by decide) dX8_set_23 (fun _ => ?_) (fun z => absurd z (by decide))
    refine aw_iload_n (x := 2) rfl dX8_set_35 ?_
    refine aw_iconst (v := 2) (by decide) dX8_set_36 ?_
    refine aw_icmp_ne (tgt := 54) (by decide) dX8_set_37 (fun z => absurd z (by decide)) (fun _ => ?_)
    refine aw_iload_n (x := v) rfl dX8_set_40 ?_
    refine aw_iconst (v := 0) (by decide) dX8_set_41 ?_
    refine aw_bipush (v := 99) (by decide) dX8_set_42 ?_
    by_cases w3 : v < 0
    · skip
      refine aw_rS (As := [.int v, .int 0, .int 99]) (S := []) (v := some (.int 0)) (o2 := o) (ct_within_lo w3) (mm_fit_of cbX8_within (by decide) (by decide)) wq938 wq939 rfl rfl (Nat.le_of_ble_eq_true rfl) (by decide) (by decide) rfl dX8_set_44 ?_
      refine aw_if_eq (tgt := 54) (by decide) dX8_set_47 (fun _ => ?_) (fun z => absurd z (by decide))
      refine aw_iconst (v := 0) (by decide) dX8_set_54 ?_
      refine aw_istore (L2 := [some (.ref (ad 14 0 0)), some (.int (nI s)), some (.int 2), some (.int v), some (.int 1), some (.int 0), none]) (by decide) rfl rfl dX8_set_55 ?_
      refine aw_aload_n (x := ad 14 0 0) rfl dX8_set_57 ?_
      refine aw_iload (x := 1) rfl dX8_set_58 ?_
      refine aw_if_ne (tgt := 67) (by decide) dX8_set_60 (fun _ => ?_) (fun z => absurd z (by decide))
      refine aw_iload (x := 0) rfl dX8_set_67 ?_
      refine aw_if_ne (tgt := 76) (by decide) dX8_set_69 (fun z => absurd z (by decide)) (fun _ => ?_)
      refine aw_iconst (v := 2) (by decide) dX8_set_72 ?_
      refine aw_goto (tgt := 113) (by decide) dX8_set_73 ?_
      refine aw_rV (As := [.int 2]) (S := []) (v := some (.int 1)) (o2 := (wd_w o 12 1 2)) (ct_refused_p (by decide)) (mm_fit_of cbX8_refused (by decide) (by decide)) wq922 cvX8_refused wv14 rfl rfl rfl (Nat.le_of_ble_eq_true rfl) (by decide) (by decide) rfl dX8_set_113 ?_
      obtain ⟨o4, ho4⟩ : ∃ z, z = (wd_w o 12 1 2) := ⟨_, rfl⟩
      rw [← ho4]
      have Go4 : cg (o4.1 8) n m := by rw [ho4]; rw [wd_w_row, row_ne _ _ (by decide)]; exact G
      have hho4 : o4.1 8 (101 + 8 * s + 1) = nI lh := by rw [ho4]; rw [wd_w_row, row_ne _ _ (by decide)]; exact hh
      refine aw_if_eq (tgt := 121) (by decide) dX8_set_116 (fun z => absurd z (by decide)) (fun _ => ?_)
      refine aw_iconst (v := 0) (by decide) dX8_set_119 ?_
      exact aw_iret rfl (by decide) (by decide) dX8_set_120 ⟨by (subst ho4; first | with_reducible rfl | (simp [rf_set2, cs_isCode, mS, mS_8, oI, mR, oI, mR, wd_w_row, row_self, row_row, k1, hme, w3]; done) | (simp_all [rf_set2, cs_isCode, mS, mS_8, oI, mR, oI, mR, wd_w_row, row_self, row_row, k1, hme, w3]; done) | (simp only [wd_w_row, row_self, row_row, i32_add0] at *; simp [rf_set2, cs_isCode, mS, mS_8, oI, mR, oI, mR, wd_w_row, row_self, row_row, k1, hme, w3]; done)), by (subst ho4; first | with_reducible rfl | (simp [rf_set2, cs_isCode, mS, mS_8, oI, mR, oI, mR, wd_w_row, row_self, row_row, k1, hme, w3]; done) | (simp_all [rf_set2, cs_isCode, mS, mS_8, oI, mR, oI, mR, wd_w_row, row_self, row_row, k1, hme, w3]; done) | (simp only [wd_w_row, row_self, row_row, i32_add0] at *; simp [rf_set2, cs_isCode, mS, mS_8, oI, mR, oI, mR, wd_w_row, row_self, row_row, k1, hme, w3]; done))⟩
    · skip
      by_cases zw3 : v > 99
      · skip
        refine aw_rS (As := [.int v, .int 0, .int 99]) (S := []) (v := some (.int 0)) (o2 := o) (ct_within_hi zw3) (mm_fit_of cbX8_within (by decide) (by decide)) wq938 wq939 rfl rfl (Nat.le_of_ble_eq_true rfl) (by decide) (by decide) rfl dX8_set_44 ?_
        refine aw_if_eq (tgt := 54) (by decide) dX8_set_47 (fun _ => ?_) (fun z => absurd z (by decide))
        refine aw_iconst (v := 0) (by decide) dX8_set_54 ?_
        refine aw_istore (L2 := [some (.ref (ad 14 0 0)), some (.int (nI s)), some (.int 2), some (.int v), some (.int 1), some (.int 0), none]) (by decide) rfl rfl dX8_set_55 ?_
        refine aw_aload_n (x := ad 14 0 0) rfl dX8_set_57 ?_
        refine aw_iload (x := 1) rfl dX8_set_58 ?_
        refine aw_if_ne (tgt := 67) (by decide) dX8_set_60 (fun _ => ?_) (fun z => absurd z (by decide))
        refine aw_iload (x := 0) rfl dX8_set_67 ?_
        refine aw_if_ne (tgt := 76) (by decide) dX8_set_69 (fun z => absurd z (by decide)) (fun _ => ?_)
        refine aw_iconst (v := 2) (by decide) dX8_set_72 ?_
        refine aw_goto (tgt := 113) (by decide) dX8_set_73 ?_
        refine aw_rV (As := [.int 2]) (S := []) (v := some (.int 1)) (o2 := (wd_w o 12 1 2)) (ct_refused_p (by decide)) (mm_fit_of cbX8_refused (by decide) (by decide)) wq922 cvX8_refused wv14 rfl rfl rfl (Nat.le_of_ble_eq_true rfl) (by decide) (by decide) rfl dX8_set_113 ?_
        obtain ⟨o5, ho5⟩ : ∃ z, z = (wd_w o 12 1 2) := ⟨_, rfl⟩
        rw [← ho5]
        have Go5 : cg (o5.1 8) n m := by rw [ho5]; rw [wd_w_row, row_ne _ _ (by decide)]; exact G
        have hho5 : o5.1 8 (101 + 8 * s + 1) = nI lh := by rw [ho5]; rw [wd_w_row, row_ne _ _ (by decide)]; exact hh
        refine aw_if_eq (tgt := 121) (by decide) dX8_set_116 (fun z => absurd z (by decide)) (fun _ => ?_)
        refine aw_iconst (v := 0) (by decide) dX8_set_119 ?_
        exact aw_iret rfl (by decide) (by decide) dX8_set_120 ⟨by (subst ho5; first | with_reducible rfl | (simp [rf_set2, cs_isCode, mS, mS_8, oI, mR, oI, mR, wd_w_row, row_self, row_row, k1, hme, w3, zw3]; done) | (simp_all [rf_set2, cs_isCode, mS, mS_8, oI, mR, oI, mR, wd_w_row, row_self, row_row, k1, hme, w3, zw3]; done) | (simp only [wd_w_row, row_self, row_row, i32_add0] at *; simp [rf_set2, cs_isCode, mS, mS_8, oI, mR, oI, mR, wd_w_row, row_self, row_row, k1, hme, w3, zw3]; done)), by (subst ho5; first | with_reducible rfl | (simp [rf_set2, cs_isCode, mS, mS_8, oI, mR, oI, mR, wd_w_row, row_self, row_row, k1, hme, w3, zw3]; done) | (simp_all [rf_set2, cs_isCode, mS, mS_8, oI, mR, oI, mR, wd_w_row, row_self, row_row, k1, hme, w3, zw3]; done) | (simp only [wd_w_row, row_self, row_row, i32_add0] at *; simp [rf_set2, cs_isCode, mS, mS_8, oI, mR, oI, mR, wd_w_row, row_self, row_row, k1, hme, w3, zw3]; done))⟩
      · skip
        refine aw_rS (As := [.int v, .int 0, .int 99]) (S := []) (v := some (.int 1)) (o2 := o) (ct_within_in w3 zw3) (mm_fit_of cbX8_within (by decide) (by decide)) wq938 wq939 rfl rfl (Nat.le_of_ble_eq_true rfl) (by decide) (by decide) rfl dX8_set_44 ?_
        refine aw_if_eq (tgt := 54) (by decide) dX8_set_47 (fun z => absurd z (by decide)) (fun _ => ?_)
        refine aw_iconst (v := 1) (by decide) dX8_set_50 ?_
        refine aw_goto (tgt := 55) (by decide) dX8_set_51 ?_
        refine aw_istore (L2 := [some (.ref (ad 14 0 0)), some (.int (nI s)), some (.int 2), some (.int v), some (.int 1), some (.int 1), none]) (by decide) rfl rfl dX8_set_55 ?_
        refine aw_aload_n (x := ad 14 0 0) rfl dX8_set_57 ?_
        refine aw_iload (x := 1) rfl dX8_set_58 ?_
        refine aw_if_ne (tgt := 67) (by decide) dX8_set_60 (fun _ => ?_) (fun z => absurd z (by decide))
        refine aw_iload (x := 1) rfl dX8_set_67 ?_
        refine aw_if_ne (tgt := 76) (by decide) dX8_set_69 (fun _ => ?_) (fun z => absurd z (by decide))
        refine aw_iload_n (x := 2) rfl dX8_set_76 ?_
        refine aw_if_ne (tgt := 112) (by decide) dX8_set_77 (fun _ => ?_) (fun z => absurd z (by decide))
        refine aw_iconst (v := 0) (by decide) dX8_set_112 ?_
        refine aw_rV (As := [.int 0]) (S := []) (v := some (.int 0)) (o2 := (wd_w o 12 1 0)) (ct_refused_0) (mm_fit_of cbX8_refused (by decide) (by decide)) wq922 cvX8_refused wv14 rfl rfl rfl (Nat.le_of_ble_eq_true rfl) (by decide) (by decide) rfl dX8_set_113 ?_
        obtain ⟨o6, ho6⟩ : ∃ z, z = (wd_w o 12 1 0) := ⟨_, rfl⟩
        rw [← ho6]
        have Go6 : cg (o6.1 8) n m := by rw [ho6]; rw [wd_w_row, row_ne _ _ (by decide)]; exact G
        have hho6 : o6.1 8 (101 + 8 * s + 1) = nI lh := by rw [ho6]; rw [wd_w_row, row_ne _ _ (by decide)]; exact hh
        refine aw_if_eq (tgt := 121) (by decide) dX8_set_116 (fun _ => ?_) (fun z => absurd z (by decide))
        refine aw_aload_n (x := ad 14 0 0) rfl dX8_set_121 ?_
        refine aw_rV (As := []) (S := []) (v := none) (o2 := (ms_sv o6 c)) (ct_X8_saves (by rw [ho6, wd_get, if_neg (by decide)]; exact hk) hc) (mm_fit_of cbX8_saves (by decide) (by decide)) wq930 cvX8_saves wv14 rfl rfl rfl (Nat.le_of_ble_eq_true rfl) (by decide) (by decide) rfl dX8_set_122 ?_
        obtain ⟨o7, ho7⟩ : ∃ z, z = (ms_sv o6 c) := ⟨_, rfl⟩
        rw [← ho7]
        have Go7 : cg (o7.1 8) n m := by rw [ho7]; rw [msv_ne (by decide) (by decide)]; exact Go6
        have hho6o7 : o7.1 8 (101 + 8 * s + 1) = nI lh := by rw [ho7]; rw [msv_ne (by decide) (by decide)]; exact hho6
        refine aw_aload_n (x := ad 14 0 0) rfl dX8_set_125 ?_
        refine aw_iload_n (x := (nI s)) rfl dX8_set_126 ?_
        refine aw_iconst (v := 2) (by decide) dX8_set_127 ?_
        refine aw_iload_n (x := 2) rfl dX8_set_128 ?_
        refine aw_iaddz (z := 4) (by decide) dX8_set_129 ?_
        refine aw_rV (As := [.int (nI s), .int 4]) (S := []) (v := some (.int (o7.1 8 (101 + 8 * s + 5)))) (o2 := o7) (ct_X8_its (s := s) (w := 4) (by omega) (by decide)) (mm_fit_of cbX8_its (by decide) (by decide)) wq949 cvX8_its wv14 rfl rfl rfl (Nat.le_of_ble_eq_true rfl) (by decide) (by decide) rfl dX8_set_130 ?_
        refine aw_istore (L2 := [some (.ref (ad 14 0 0)), some (.int (nI s)), some (.int 2), some (.int v), some (.int 1), some (.int 1), some (.int (o7.1 8 (101 + 8 * s + 5)))]) (by decide) rfl rfl dX8_set_133 ?_
        refine aw_aload_n (x := ad 14 0 0) rfl dX8_set_135 ?_
        refine aw_iload_n (x := (nI s)) rfl dX8_set_136 ?_
        refine aw_iconst (v := 2) (by decide) dX8_set_137 ?_
        refine aw_iload_n (x := 2) rfl dX8_set_138 ?_
        refine aw_iaddz (z := 4) (by decide) dX8_set_139 ?_
        refine aw_iload_n (x := v) rfl dX8_set_140 ?_
        refine aw_rV (As := [.int (nI s), .int 4, .int v]) (S := []) (v := none) (o2 := (wd_w o7 8 (101 + 8 * s + 5) v)) (ct_X8_give (s := s) (w := 4) (by omega) (by decide)) (mm_fit_of cbX8_give (by decide) (by decide)) wq953 cvX8_give wv14 rfl rfl rfl (Nat.le_of_ble_eq_true rfl) (by decide) (by decide) rfl dX8_set_141 ?_
        refine aw_iload (x := (o7.1 8 (101 + 8 * s + 5))) rfl dX8_set_144 ?_
        exact aw_iret rfl (by decide) (by decide) dX8_set_146 ⟨by (subst ho7; subst ho6; first | with_reducible rfl | (simp [rf_set2, cs_isCode, mS, mS_8, oI, mR, oI, mR, wd_w_row, row_self, row_row, k1, hme, w3, zw3]; done) | (simp_all [rf_set2, cs_isCode, mS, mS_8, oI, mR, oI, mR, wd_w_row, row_self, row_row, k1, hme, w3, zw3]; done) | (simp only [wd_w_row, row_self, row_row, i32_add0] at *; simp [rf_set2, cs_isCode, mS, mS_8, oI, mR, oI, mR, wd_w_row, row_self, row_row, k1, hme, w3, zw3]; done)), by (subst ho7; subst ho6; first | with_reducible rfl | (simp [rf_set2, cs_isCode, mS, mS_8, oI, mR, oI, mR, wd_w_row, row_self, row_row, k1, hme, w3, zw3]; done) | (simp_all [rf_set2, cs_isCode, mS, mS_8, oI, mR, oI, mR, wd_w_row, row_self, row_row, k1, hme, w3, zw3]; done) | (simp only [wd_w_row, row_self, row_row, i32_add0] at *; simp [rf_set2, cs_isCode, mS, mS_8, oI, mR, oI, mR, wd_w_row, row_self, row_row, k1, hme, w3, zw3]; done))⟩
theorem rt_setx {ad : Nat → Nat → Nat → Nat} {o : wd_S} {n m c : Nat} (V : mv o n m c) {x w v : Int32} (h0 : w ≠ 0) (h1 : w ≠ 1) (h2 : w ≠ 2) : CT ad MX8_set [.ref (ad 14 0 0), .int x, .int w, .int v] o (OT (rf_setx o m x)) := by
  obtain ⟨G, hk, hc⟩ := id V
  obtain ⟨g1, g2, g3, g4, g5, g6⟩ := id G
  refine CT.of (L := [some (.ref (ad 14 0 0)), some (.int x), some (.int w), some (.int v), none, none, none]) rfl rfl (by decide) (Nat.le_of_ble_eq_true rfl) rfl ?_
  refine aw_aload_n (x := ad 14 0 0) rfl dX8_set_0 ?_
  refine aw_iload_n (x := x) rfl dX8_set_1 ?_
  rcases k1 : lk m x with _ | s
  · skip
    refine aw_rV (As := [.int x]) (S := []) (v := some (.int 0)) (o2 := o) (ct_X8_isOne_none G k1) (mm_fit_of cbX8_isOne (by decide) (by decide)) wq961 cvX8_isOne wv14 rfl rfl rfl (Nat.le_of_ble_eq_true rfl) (by decide) (by decide) rfl dX8_set_2 ?_
    refine aw_istore (L2 := [some (.ref (ad 14 0 0)), some (.int x), some (.int w), some (.int v), some (.int 0), none, none]) (by decide) rfl rfl dX8_set_5 ?_
    refine aw_iload_n (x := w) rfl dX8_set_7 ?_
    refine aw_if_ne (tgt := 21) (by decide) dX8_set_8 (fun _ => ?_) (fun z => absurd z h0)
    refine aw_iload_n (x := w) rfl dX8_set_21 ?_
    refine aw_iconst (v := 1) (by decide) dX8_set_22 ?_
    refine aw_icmp_ne (tgt := 35) (by decide) dX8_set_23 (fun _ => ?_) (fun z => absurd z h1)
    refine aw_iload_n (x := w) rfl dX8_set_35 ?_
    refine aw_iconst (v := 2) (by decide) dX8_set_36 ?_
    refine aw_icmp_ne (tgt := 54) (by decide) dX8_set_37 (fun _ => ?_) (fun z => absurd z h2)
    refine aw_iconst (v := 0) (by decide) dX8_set_54 ?_
    refine aw_istore (L2 := [some (.ref (ad 14 0 0)), some (.int x), some (.int w), some (.int v), some (.int 0), some (.int 0), none]) (by decide) rfl rfl dX8_set_55 ?_
    refine aw_aload_n (x := ad 14 0 0) rfl dX8_set_57 ?_
    refine aw_iload (x := 0) rfl dX8_set_58 ?_
    refine aw_if_ne (tgt := 67) (by decide) dX8_set_60 (fun z => absurd z (by decide)) (fun _ => ?_)
    refine aw_iconst (v := 1) (by decide) dX8_set_63 ?_
    refine aw_goto (tgt := 113) (by decide) dX8_set_64 ?_
    refine aw_rV (As := [.int 1]) (S := []) (v := some (.int 1)) (o2 := (wd_w o 12 1 1)) (ct_refused_p (by decide)) (mm_fit_of cbX8_refused (by decide) (by decide)) wq922 cvX8_refused wv14 rfl rfl rfl (Nat.le_of_ble_eq_true rfl) (by decide) (by decide) rfl dX8_set_113 ?_
    obtain ⟨o1, ho1⟩ : ∃ z, z = (wd_w o 12 1 1) := ⟨_, rfl⟩
    rw [← ho1]
    have Go1 : cg (o1.1 8) n m := by rw [ho1]; rw [wd_w_row, row_ne _ _ (by decide)]; exact G
    refine aw_if_eq (tgt := 121) (by decide) dX8_set_116 (fun z => absurd z (by decide)) (fun _ => ?_)
    refine aw_iconst (v := 0) (by decide) dX8_set_119 ?_
    exact aw_iret rfl (by decide) (by decide) dX8_set_120 ⟨by (subst ho1; first | with_reducible rfl | (simp [rf_setx, mS, mS_8, oI, mR, oI, mR, wd_w_row, row_self, row_row, k1]; done) | (simp_all [rf_setx, mS, mS_8, oI, mR, oI, mR, wd_w_row, row_self, row_row, k1]; done) | (simp only [wd_w_row, row_self, row_row, i32_add0] at *; simp [rf_setx, mS, mS_8, oI, mR, oI, mR, wd_w_row, row_self, row_row, k1]; done)), by (subst ho1; first | with_reducible rfl | (simp [rf_setx, mS, mS_8, oI, mR, oI, mR, wd_w_row, row_self, row_row, k1]; done) | (simp_all [rf_setx, mS, mS_8, oI, mR, oI, mR, wd_w_row, row_self, row_row, k1]; done) | (simp only [wd_w_row, row_self, row_row, i32_add0] at *; simp [rf_setx, mS, mS_8, oI, mR, oI, mR, wd_w_row, row_self, row_row, k1]; done))⟩
  · skip
    obtain ⟨rfl, k1l⟩ := lk_some k1
    have k1b : s < 16 := by omega
    refine aw_rV (As := [.int (nI s)]) (S := []) (v := some (.int 1)) (o2 := o) (ct_X8_isOne_some G k1) (mm_fit_of cbX8_isOne (by decide) (by decide)) wq961 cvX8_isOne wv14 rfl rfl rfl (Nat.le_of_ble_eq_true rfl) (by decide) (by decide) rfl dX8_set_2 ?_
    obtain ⟨lh, hlh, hh⟩ := G.2.2.2.2.1 s k1l
    have hlh5 : lh < 5 := by omega
    have hme : hm (o.1 8) s = lh := hm_of hh hlh5
    refine aw_istore (L2 := [some (.ref (ad 14 0 0)), some (.int (nI s)), some (.int w), some (.int v), some (.int 1), none, none]) (by decide) rfl rfl dX8_set_5 ?_
    refine aw_iload_n (x := w) rfl dX8_set_7 ?_
    refine aw_if_ne (tgt := 21) (by decide) dX8_set_8 (fun _ => ?_) (fun z => absurd z h0)
    refine aw_iload_n (x := w) rfl dX8_set_21 ?_
    refine aw_iconst (v := 1) (by decide) dX8_set_22 ?_
    refine aw_icmp_ne (tgt := 35) (by decide) dX8_set_23 (fun _ => ?_) (fun z => absurd z h1)
    refine aw_iload_n (x := w) rfl dX8_set_35 ?_
    refine aw_iconst (v := 2) (by decide) dX8_set_36 ?_
    refine aw_icmp_ne (tgt := 54) (by decide) dX8_set_37 (fun _ => ?_) (fun z => absurd z h2)
    refine aw_iconst (v := 0) (by decide) dX8_set_54 ?_
    refine aw_istore (L2 := [some (.ref (ad 14 0 0)), some (.int (nI s)), some (.int w), some (.int v), some (.int 1), some (.int 0), none]) (by decide) rfl rfl dX8_set_55 ?_
    refine aw_aload_n (x := ad 14 0 0) rfl dX8_set_57 ?_
    refine aw_iload (x := 1) rfl dX8_set_58 ?_
    refine aw_if_ne (tgt := 67) (by decide) dX8_set_60 (fun _ => ?_) (fun z => absurd z (by decide))
    refine aw_iload (x := 0) rfl dX8_set_67 ?_
    refine aw_if_ne (tgt := 76) (by decide) dX8_set_69 (fun z => absurd z (by decide)) (fun _ => ?_)
    refine aw_iconst (v := 2) (by decide) dX8_set_72 ?_
    refine aw_goto (tgt := 113) (by decide) dX8_set_73 ?_
    refine aw_rV (As := [.int 2]) (S := []) (v := some (.int 1)) (o2 := (wd_w o 12 1 2)) (ct_refused_p (by decide)) (mm_fit_of cbX8_refused (by decide) (by decide)) wq922 cvX8_refused wv14 rfl rfl rfl (Nat.le_of_ble_eq_true rfl) (by decide) (by decide) rfl dX8_set_113 ?_
    obtain ⟨o2, ho2⟩ : ∃ z, z = (wd_w o 12 1 2) := ⟨_, rfl⟩
    rw [← ho2]
    have Go2 : cg (o2.1 8) n m := by rw [ho2]; rw [wd_w_row, row_ne _ _ (by decide)]; exact G
    have hho2 : o2.1 8 (101 + 8 * s + 1) = nI lh := by rw [ho2]; rw [wd_w_row, row_ne _ _ (by decide)]; exact hh
    refine aw_if_eq (tgt := 121) (by decide) dX8_set_116 (fun z => absurd z (by decide)) (fun _ => ?_)
    refine aw_iconst (v := 0) (by decide) dX8_set_119 ?_
    exact aw_iret rfl (by decide) (by decide) dX8_set_120 ⟨by (subst ho2; first | with_reducible rfl | (simp [rf_setx, mS, mS_8, oI, mR, oI, mR, wd_w_row, row_self, row_row, k1, hme]; done) | (simp_all [rf_setx, mS, mS_8, oI, mR, oI, mR, wd_w_row, row_self, row_row, k1, hme]; done) | (simp only [wd_w_row, row_self, row_row, i32_add0] at *; simp [rf_setx, mS, mS_8, oI, mR, oI, mR, wd_w_row, row_self, row_row, k1, hme]; done)), by (subst ho2; first | with_reducible rfl | (simp [rf_setx, mS, mS_8, oI, mR, oI, mR, wd_w_row, row_self, row_row, k1, hme]; done) | (simp_all [rf_setx, mS, mS_8, oI, mR, oI, mR, wd_w_row, row_self, row_row, k1, hme]; done) | (simp only [wd_w_row, row_self, row_row, i32_add0] at *; simp [rf_setx, mS, mS_8, oI, mR, oI, mR, wd_w_row, row_self, row_row, k1, hme]; done))⟩
theorem rt_loops {ad : Nat → Nat → Nat → Nat} {o : wd_S} {n m c : Nat} (V : mv o n m c)  : CT ad MX8_loops [.ref (ad 14 0 0)] o (RT (some (.int (nI n))) (wd_w o 12 1 0)) := by
  obtain ⟨G, hk, hc⟩ := id V
  obtain ⟨g1, g2, g3, g4, g5, g6⟩ := id G
  refine CT.of (L := [some (.ref (ad 14 0 0))]) rfl rfl (by decide) (Nat.le_of_ble_eq_true rfl) rfl ?_
  refine aw_aload_n (x := ad 14 0 0) rfl dX8_loops_0 ?_
  refine aw_iconst (v := 0) (by decide) dX8_loops_1 ?_
  refine aw_puti (q := (12, 1)) wv14 rfl fwX8_25 rfl rfl dX8_loops_2 ?_
  refine aw_aload_n (x := ad 14 0 0) rfl dX8_loops_5 ?_
  refine aw_getr (q := (15, 0, 0)) wv14 rfl flX8_7 rfl rfl dX8_loops_6 ?_
  refine aw_iconst (v := 0) (by decide) dX8_loops_9 ?_
  refine aw_ild (x := 0) (q := (8, 0)) (y := nI n) (by decide) (wv15 (by decide)) rfl ((show _ = o.1 8 0 from (by simp only [wd_get]; rw [if_neg (by omega)])).trans G.1) (Nat.le_of_ble_eq_true rfl) rfl dX8_loops_10 ?_
  exact aw_iret rfl (by decide) (by decide) dX8_loops_11 ⟨by (first | with_reducible rfl | (simp [mS, mS_8, oI, mR, oI, mR, wd_w_row, row_self, row_row]; done) | (simp_all [mS, mS_8, oI, mR, oI, mR, wd_w_row, row_self, row_row]; done) | (simp only [wd_w_row, row_self, row_row, i32_add0] at *; simp [mS, mS_8, oI, mR, oI, mR, wd_w_row, row_self, row_row]; done)), by (first | with_reducible rfl | (simp [mS, mS_8, oI, mR, oI, mR, wd_w_row, row_self, row_row]; done) | (simp_all [mS, mS_8, oI, mR, oI, mR, wd_w_row, row_self, row_row]; done) | (simp only [wd_w_row, row_self, row_row, i32_add0] at *; simp [mS, mS_8, oI, mR, oI, mR, wd_w_row, row_self, row_row]; done))⟩
theorem rt_subscribers {ad : Nat → Nat → Nat → Nat} {o : wd_S} {n m c : Nat} (V : mv o n m c)  : CT ad MX8_subscribers [.ref (ad 14 0 0)] o (RT (some (.int (nI m))) (wd_w o 12 1 0)) := by
  obtain ⟨G, hk, hc⟩ := id V
  obtain ⟨g1, g2, g3, g4, g5, g6⟩ := id G
  refine CT.of (L := [some (.ref (ad 14 0 0))]) rfl rfl (by decide) (Nat.le_of_ble_eq_true rfl) rfl ?_
  refine aw_aload_n (x := ad 14 0 0) rfl dX8_subscribers_0 ?_
  refine aw_iconst (v := 0) (by decide) dX8_subscribers_1 ?_
  refine aw_puti (q := (12, 1)) wv14 rfl fwX8_25 rfl rfl dX8_subscribers_2 ?_
  refine aw_aload_n (x := ad 14 0 0) rfl dX8_subscribers_5 ?_
  refine aw_getr (q := (15, 0, 0)) wv14 rfl flX8_7 rfl rfl dX8_subscribers_6 ?_
  refine aw_bipush (v := 101) (by decide) dX8_subscribers_9 ?_
  refine aw_ild (x := 101) (q := (8, 101)) (y := nI m) (by decide) (wv15 (by decide)) rfl ((show _ = o.1 8 101 from (by simp only [wd_get]; rw [if_neg (by omega)])).trans G.2.2.1) (Nat.le_of_ble_eq_true rfl) rfl dX8_subscribers_11 ?_
  exact aw_iret rfl (by decide) (by decide) dX8_subscribers_12 ⟨by (first | with_reducible rfl | (simp [mS, mS_8, oI, mR, oI, mR, wd_w_row, row_self, row_row]; done) | (simp_all [mS, mS_8, oI, mR, oI, mR, wd_w_row, row_self, row_row]; done) | (simp only [wd_w_row, row_self, row_row, i32_add0] at *; simp [mS, mS_8, oI, mR, oI, mR, wd_w_row, row_self, row_row]; done)), by (first | with_reducible rfl | (simp [mS, mS_8, oI, mR, oI, mR, wd_w_row, row_self, row_row]; done) | (simp_all [mS, mS_8, oI, mR, oI, mR, wd_w_row, row_self, row_row]; done) | (simp only [wd_w_row, row_self, row_row, i32_add0] at *; simp [mS, mS_8, oI, mR, oI, mR, wd_w_row, row_self, row_row]; done))⟩
def rf_sub (o : wd_S) (m : Nat) (x w : Int32) : Out := match lk m x with
  | none => mR 1 o
  | some s => if w < 0 then mR 2 o else if w > 7 then mR 2 o else oI (mf_told (o.1 8) (hm (o.1 8) s) s w) (wd_w o 12 1 0)
def rf_loop (o : wd_S) (n m : Nat) (x w : Int32) : Out := match lk n x with
  | none => mR 1 o
  | some l => if w < 0 then mR 2 o else if w > 8 then mR 2 o else oI (mf_tl (o.1 8) m l w) (wd_w o 12 1 0)
theorem rt_sub {ad : Nat → Nat → Nat → Nat} {o : wd_S} {n m c : Nat} (V : mv o n m c) {x w : Int32} : CT ad MX8_subscriber [.ref (ad 14 0 0), .int x, .int w] o (OT (rf_sub o m x w)) := by
  obtain ⟨G, hk, hc⟩ := id V
  obtain ⟨g1, g2, g3, g4, g5, g6⟩ := id G
  refine CT.of (L := [some (.ref (ad 14 0 0)), some (.int x), some (.int w)]) rfl rfl (by decide) (Nat.le_of_ble_eq_true rfl) rfl ?_
  refine aw_aload_n (x := ad 14 0 0) rfl dX8_subscriber_0 ?_
  refine aw_aload_n (x := ad 14 0 0) rfl dX8_subscriber_1 ?_
  refine aw_iload_n (x := x) rfl dX8_subscriber_2 ?_
  rcases k1 : lk m x with _ | s
  · skip
    refine aw_rV (As := [.int x]) (S := [.ref (ad 14 0 0)]) (v := some (.int 0)) (o2 := o) (ct_X8_isOne_none G k1) (mm_fit_of cbX8_isOne (by decide) (by decide)) wq961 cvX8_isOne wv14 rfl rfl rfl (Nat.le_of_ble_eq_true rfl) (by decide) (by decide) rfl dX8_subscriber_3 ?_
    refine aw_if_ne (tgt := 13) (by decide) dX8_subscriber_6 (fun z => absurd z (by decide)) (fun _ => ?_)
    refine aw_iconst (v := 1) (by decide) dX8_subscriber_9 ?_
    refine aw_goto (tgt := 28) (by decide) dX8_subscriber_10 ?_
    refine aw_rV (As := [.int 1]) (S := []) (v := some (.int 1)) (o2 := (wd_w o 12 1 1)) (ct_refused_p (by decide)) (mm_fit_of cbX8_refused (by decide) (by decide)) wq922 cvX8_refused wv14 rfl rfl rfl (Nat.le_of_ble_eq_true rfl) (by decide) (by decide) rfl dX8_subscriber_28 ?_
    obtain ⟨o1, ho1⟩ : ∃ z, z = (wd_w o 12 1 1) := ⟨_, rfl⟩
    rw [← ho1]
    have Go1 : cg (o1.1 8) n m := by rw [ho1]; rw [wd_w_row, row_ne _ _ (by decide)]; exact G
    refine aw_if_eq (tgt := 38) (by decide) dX8_subscriber_31 (fun z => absurd z (by decide)) (fun _ => ?_)
    refine aw_iconst (v := 0) (by decide) dX8_subscriber_34 ?_
    refine aw_goto (tgt := 44) (by decide) dX8_subscriber_35 ?_
    exact aw_iret rfl (by decide) (by decide) dX8_subscriber_44 ⟨by (subst ho1; first | with_reducible rfl | (simp [rf_sub, row_ne _ _ (show (8 : Nat) ≠ 12 by decide), mS, mS_8, oI, mR, oI, mR, wd_w_row, row_self, row_row, k1]; done) | (simp_all [rf_sub, row_ne _ _ (show (8 : Nat) ≠ 12 by decide), mS, mS_8, oI, mR, oI, mR, wd_w_row, row_self, row_row, k1]; done) | (simp only [wd_w_row, row_self, row_row, i32_add0] at *; simp [rf_sub, row_ne _ _ (show (8 : Nat) ≠ 12 by decide), mS, mS_8, oI, mR, oI, mR, wd_w_row, row_self, row_row, k1]; done)), by (subst ho1; first | with_reducible rfl | (simp [rf_sub, row_ne _ _ (show (8 : Nat) ≠ 12 by decide), mS, mS_8, oI, mR, oI, mR, wd_w_row, row_self, row_row, k1]; done) | (simp_all [rf_sub, row_ne _ _ (show (8 : Nat) ≠ 12 by decide), mS, mS_8, oI, mR, oI, mR, wd_w_row, row_self, row_row, k1]; done) | (simp only [wd_w_row, row_self, row_row, i32_add0] at *; simp [rf_sub, row_ne _ _ (show (8 : Nat) ≠ 12 by decide), mS, mS_8, oI, mR, oI, mR, wd_w_row, row_self, row_row, k1]; done))⟩
  · skip
    obtain ⟨rfl, k1l⟩ := lk_some k1
    have k1b : s < 16 := by omega
    refine aw_rV (As := [.int (nI s)]) (S := [.ref (ad 14 0 0)]) (v := some (.int 1)) (o2 := o) (ct_X8_isOne_some G k1) (mm_fit_of cbX8_isOne (by decide) (by decide)) wq961 cvX8_isOne wv14 rfl rfl rfl (Nat.le_of_ble_eq_true rfl) (by decide) (by decide) rfl dX8_subscriber_3 ?_
    obtain ⟨lh, hlh, hh⟩ := G.2.2.2.2.1 s k1l
    have hlh5 : lh < 5 := by omega
    have hme : hm (o.1 8) s = lh := hm_of hh hlh5
    refine aw_if_ne (tgt := 13) (by decide) dX8_subscriber_6 (fun _ => ?_) (fun z => absurd z (by decide))
    refine aw_iload_n (x := w) rfl dX8_subscriber_13 ?_
    refine aw_iconst (v := 0) (by decide) dX8_subscriber_14 ?_
    refine aw_bipush (v := 7) (by decide) dX8_subscriber_15 ?_
    by_cases w2 : w < 0
    · skip
      refine aw_rS (As := [.int w, .int 0, .int 7]) (S := [.ref (ad 14 0 0)]) (v := some (.int 0)) (o2 := o) (ct_within_lo w2) (mm_fit_of cbX8_within (by decide) (by decide)) wq938 wq939 rfl rfl (Nat.le_of_ble_eq_true rfl) (by decide) (by decide) rfl dX8_subscriber_17 ?_
      refine aw_if_ne (tgt := 27) (by decide) dX8_subscriber_20 (fun z => absurd z (by decide)) (fun _ => ?_)
      refine aw_iconst (v := 2) (by decide) dX8_subscriber_23 ?_
      refine aw_goto (tgt := 28) (by decide) dX8_subscriber_24 ?_
      refine aw_rV (As := [.int 2]) (S := []) (v := some (.int 1)) (o2 := (wd_w o 12 1 2)) (ct_refused_p (by decide)) (mm_fit_of cbX8_refused (by decide) (by decide)) wq922 cvX8_refused wv14 rfl rfl rfl (Nat.le_of_ble_eq_true rfl) (by decide) (by decide) rfl dX8_subscriber_28 ?_
      obtain ⟨o2, ho2⟩ : ∃ z, z = (wd_w o 12 1 2) := ⟨_, rfl⟩
      rw [← ho2]
      have Go2 : cg (o2.1 8) n m := by rw [ho2]; rw [wd_w_row, row_ne _ _ (by decide)]; exact G
      have hho2 : o2.1 8 (101 + 8 * s + 1) = nI lh := by rw [ho2]; rw [wd_w_row, row_ne _ _ (by decide)]; exact hh
      refine aw_if_eq (tgt := 38) (by decide) dX8_subscriber_31 (fun z => absurd z (by decide)) (fun _ => ?_)
      refine aw_iconst (v := 0) (by decide) dX8_subscriber_34 ?_
      refine aw_goto (tgt := 44) (by decide) dX8_subscriber_35 ?_
      exact aw_iret rfl (by decide) (by decide) dX8_subscriber_44 ⟨by (subst ho2; first | with_reducible rfl | (simp [rf_sub, row_ne _ _ (show (8 : Nat) ≠ 12 by decide), mS, mS_8, oI, mR, oI, mR, wd_w_row, row_self, row_row, k1, hme, w2]; done) | (simp_all [rf_sub, row_ne _ _ (show (8 : Nat) ≠ 12 by decide), mS, mS_8, oI, mR, oI, mR, wd_w_row, row_self, row_row, k1, hme, w2]; done) | (simp only [wd_w_row, row_self, row_row, i32_add0] at *; simp [rf_sub, row_ne _ _ (show (8 : Nat) ≠ 12 by decide), mS, mS_8, oI, mR, oI, mR, wd_w_row, row_self, row_row, k1, hme, w2]; done)), by (subst ho2; first | with_reducible rfl | (simp [rf_sub, row_ne _ _ (show (8 : Nat) ≠ 12 by decide), mS, mS_8, oI, mR, oI, mR, wd_w_row, row_self, row_row, k1, hme, w2]; done) | (simp_all [rf_sub, row_ne _ _ (show (8 : Nat) ≠ 12 by decide), mS, mS_8, oI, mR, oI, mR, wd_w_row, row_self, row_row, k1, hme, w2]; done) | (simp only [wd_w_row, row_self, row_row, i32_add0] at *; simp [rf_sub, row_ne _ _ (show (8 : Nat) ≠ 12 by decide), mS, mS_8, oI, mR, oI, mR, wd_w_row, row_self, row_row, k1, hme, w2]; done))⟩
    · skip
      by_cases zw2 : w > 7
      · skip
        refine aw_rS (As := [.int w, .int 0, .int 7]) (S := [.ref (ad 14 0 0)]) (v := some (.int 0)) (o2 := o) (ct_within_hi zw2) (mm_fit_of cbX8_within (by decide) (by decide)) wq938 wq939 rfl rfl (Nat.le_of_ble_eq_true rfl) (by decide) (by decide) rfl dX8_subscriber_17 ?_
        refine aw_if_ne (tgt := 27) (by decide) dX8_subscriber_20 (fun z => absurd z (by decide)) (fun _ => ?_)
        refine aw_iconst (v := 2) (by decide) dX8_subscriber_23 ?_
        refine aw_goto (tgt := 28) (by decide) dX8_subscriber_24 ?_
        refine aw_rV (As := [.int 2]) (S := []) (v := some (.int 1)) (o2 := (wd_w o 12 1 2)) (ct_refused_p (by decide)) (mm_fit_of cbX8_refused (by decide) (by decide)) wq922 cvX8_refused wv14 rfl rfl rfl (Nat.le_of_ble_eq_true rfl) (by decide) (by decide) rfl dX8_subscriber_28 ?_
        obtain ⟨o3, ho3⟩ : ∃ z, z = (wd_w o 12 1 2) := ⟨_, rfl⟩
        rw [← ho3]
        have Go3 : cg (o3.1 8) n m := by rw [ho3]; rw [wd_w_row, row_ne _ _ (by decide)]; exact G
        have hho3 : o3.1 8 (101 + 8 * s + 1) = nI lh := by rw [ho3]; rw [wd_w_row, row_ne _ _ (by decide)]; exact hh
        refine aw_if_eq (tgt := 38) (by decide) dX8_subscriber_31 (fun z => absurd z (by decide)) (fun _ => ?_)
        refine aw_iconst (v := 0) (by decide) dX8_subscriber_34 ?_
        refine aw_goto (tgt := 44) (by decide) dX8_subscriber_35 ?_
        exact aw_iret rfl (by decide) (by decide) dX8_subscriber_44 ⟨by (subst ho3; first | with_reducible rfl | (simp [rf_sub, row_ne _ _ (show (8 : Nat) ≠ 12 by decide), mS, mS_8, oI, mR, oI, mR, wd_w_row, row_self, row_row, k1, hme, w2, zw2]; done) | (simp_all [rf_sub, row_ne _ _ (show (8 : Nat) ≠ 12 by decide), mS, mS_8, oI, mR, oI, mR, wd_w_row, row_self, row_row, k1, hme, w2, zw2]; done) | (simp only [wd_w_row, row_self, row_row, i32_add0] at *; simp [rf_sub, row_ne _ _ (show (8 : Nat) ≠ 12 by decide), mS, mS_8, oI, mR, oI, mR, wd_w_row, row_self, row_row, k1, hme, w2, zw2]; done)), by (subst ho3; first | with_reducible rfl | (simp [rf_sub, row_ne _ _ (show (8 : Nat) ≠ 12 by decide), mS, mS_8, oI, mR, oI, mR, wd_w_row, row_self, row_row, k1, hme, w2, zw2]; done) | (simp_all [rf_sub, row_ne _ _ (show (8 : Nat) ≠ 12 by decide), mS, mS_8, oI, mR, oI, mR, wd_w_row, row_self, row_row, k1, hme, w2, zw2]; done) | (simp only [wd_w_row, row_self, row_row, i32_add0] at *; simp [rf_sub, row_ne _ _ (show (8 : Nat) ≠ 12 by decide), mS, mS_8, oI, mR, oI, mR, wd_w_row, row_self, row_row, k1, hme, w2, zw2]; done))⟩
      · skip
        refine aw_rS (As := [.int w, .int 0, .int 7]) (S := [.ref (ad 14 0 0)]) (v := some (.int 1)) (o2 := o) (ct_within_in w2 zw2) (mm_fit_of cbX8_within (by decide) (by decide)) wq938 wq939 rfl rfl (Nat.le_of_ble_eq_true rfl) (by decide) (by decide) rfl dX8_subscriber_17 ?_
        refine aw_if_ne (tgt := 27) (by decide) dX8_subscriber_20 (fun _ => ?_) (fun z => absurd z (by decide))
        refine aw_iconst (v := 0) (by decide) dX8_subscriber_27 ?_
        refine aw_rV (As := [.int 0]) (S := []) (v := some (.int 0)) (o2 := (wd_w o 12 1 0)) (ct_refused_0) (mm_fit_of cbX8_refused (by decide) (by decide)) wq922 cvX8_refused wv14 rfl rfl rfl (Nat.le_of_ble_eq_true rfl) (by decide) (by decide) rfl dX8_subscriber_28 ?_
        obtain ⟨o4, ho4⟩ : ∃ z, z = (wd_w o 12 1 0) := ⟨_, rfl⟩
        rw [← ho4]
        have Go4 : cg (o4.1 8) n m := by rw [ho4]; rw [wd_w_row, row_ne _ _ (by decide)]; exact G
        have hho4 : o4.1 8 (101 + 8 * s + 1) = nI lh := by rw [ho4]; rw [wd_w_row, row_ne _ _ (by decide)]; exact hh
        refine aw_if_eq (tgt := 38) (by decide) dX8_subscriber_31 (fun _ => ?_) (fun z => absurd z (by decide))
        refine aw_aload_n (x := ad 14 0 0) rfl dX8_subscriber_38 ?_
        refine aw_iload_n (x := (nI s)) rfl dX8_subscriber_39 ?_
        refine aw_iload_n (x := w) rfl dX8_subscriber_40 ?_
        refine aw_rV (As := [.int (nI s), .int w]) (S := []) (v := some (.int (mf_told (o4.1 8) lh s w))) (o2 := o4) (ct_X8_tolds Go4 (by omega) (by omega) hho4 w2 (le_lt (k := 7) (by decide) zw2)) (mm_fit_of cbX8_told (by decide) (by decide)) wq985 cvX8_told wv14 rfl rfl rfl (Nat.le_of_ble_eq_true rfl) (by decide) (by decide) rfl dX8_subscriber_41 ?_
        exact aw_iret rfl (by decide) (by decide) dX8_subscriber_44 ⟨by (subst ho4; first | with_reducible rfl | (simp [rf_sub, row_ne _ _ (show (8 : Nat) ≠ 12 by decide), mS, mS_8, oI, mR, oI, mR, wd_w_row, row_self, row_row, k1, hme, w2, zw2]; done) | (simp_all [rf_sub, row_ne _ _ (show (8 : Nat) ≠ 12 by decide), mS, mS_8, oI, mR, oI, mR, wd_w_row, row_self, row_row, k1, hme, w2, zw2]; done) | (simp only [wd_w_row, row_self, row_row, i32_add0] at *; simp [rf_sub, row_ne _ _ (show (8 : Nat) ≠ 12 by decide), mS, mS_8, oI, mR, oI, mR, wd_w_row, row_self, row_row, k1, hme, w2, zw2]; done)), by (subst ho4; first | with_reducible rfl | (simp [rf_sub, row_ne _ _ (show (8 : Nat) ≠ 12 by decide), mS, mS_8, oI, mR, oI, mR, wd_w_row, row_self, row_row, k1, hme, w2, zw2]; done) | (simp_all [rf_sub, row_ne _ _ (show (8 : Nat) ≠ 12 by decide), mS, mS_8, oI, mR, oI, mR, wd_w_row, row_self, row_row, k1, hme, w2, zw2]; done) | (simp only [wd_w_row, row_self, row_row, i32_add0] at *; simp [rf_sub, row_ne _ _ (show (8 : Nat) ≠ 12 by decide), mS, mS_8, oI, mR, oI, mR, wd_w_row, row_self, row_row, k1, hme, w2, zw2]; done))⟩
theorem rt_loop {ad : Nat → Nat → Nat → Nat} {o : wd_S} {n m c : Nat} (V : mv o n m c) {x w : Int32} : CT ad MX8_loop [.ref (ad 14 0 0), .int x, .int w] o (OT (rf_loop o n m x w)) := by
  obtain ⟨G, hk, hc⟩ := id V
  obtain ⟨g1, g2, g3, g4, g5, g6⟩ := id G
  refine CT.of (L := [some (.ref (ad 14 0 0)), some (.int x), some (.int w)]) rfl rfl (by decide) (Nat.le_of_ble_eq_true rfl) rfl ?_
  refine aw_aload_n (x := ad 14 0 0) rfl dX8_loop_0 ?_
  refine aw_aload_n (x := ad 14 0 0) rfl dX8_loop_1 ?_
  refine aw_iload_n (x := x) rfl dX8_loop_2 ?_
  rcases k1 : lk n x with _ | l
  · skip
    refine aw_rV (As := [.int x]) (S := [.ref (ad 14 0 0)]) (v := some (.int 0)) (o2 := o) (ct_X8_isLoop_none G k1) (mm_fit_of cbX8_isLoop (by decide) (by decide)) wq941 cvX8_isLoop wv14 rfl rfl rfl (Nat.le_of_ble_eq_true rfl) (by decide) (by decide) rfl dX8_loop_3 ?_
    refine aw_if_ne (tgt := 13) (by decide) dX8_loop_6 (fun z => absurd z (by decide)) (fun _ => ?_)
    refine aw_iconst (v := 1) (by decide) dX8_loop_9 ?_
    refine aw_goto (tgt := 28) (by decide) dX8_loop_10 ?_
    refine aw_rV (As := [.int 1]) (S := []) (v := some (.int 1)) (o2 := (wd_w o 12 1 1)) (ct_refused_p (by decide)) (mm_fit_of cbX8_refused (by decide) (by decide)) wq922 cvX8_refused wv14 rfl rfl rfl (Nat.le_of_ble_eq_true rfl) (by decide) (by decide) rfl dX8_loop_28 ?_
    obtain ⟨o1, ho1⟩ : ∃ z, z = (wd_w o 12 1 1) := ⟨_, rfl⟩
    rw [← ho1]
    have Go1 : cg (o1.1 8) n m := by rw [ho1]; rw [wd_w_row, row_ne _ _ (by decide)]; exact G
    refine aw_if_eq (tgt := 38) (by decide) dX8_loop_31 (fun z => absurd z (by decide)) (fun _ => ?_)
    refine aw_iconst (v := 0) (by decide) dX8_loop_34 ?_
    refine aw_goto (tgt := 44) (by decide) dX8_loop_35 ?_
    exact aw_iret rfl (by decide) (by decide) dX8_loop_44 ⟨by (subst ho1; first | with_reducible rfl | (simp [rf_loop, row_ne _ _ (show (8 : Nat) ≠ 12 by decide), mS, mS_8, oI, mR, oI, mR, wd_w_row, row_self, row_row, k1]; done) | (simp_all [rf_loop, row_ne _ _ (show (8 : Nat) ≠ 12 by decide), mS, mS_8, oI, mR, oI, mR, wd_w_row, row_self, row_row, k1]; done) | (simp only [wd_w_row, row_self, row_row, i32_add0] at *; simp [rf_loop, row_ne _ _ (show (8 : Nat) ≠ 12 by decide), mS, mS_8, oI, mR, oI, mR, wd_w_row, row_self, row_row, k1]; done)), by (subst ho1; first | with_reducible rfl | (simp [rf_loop, row_ne _ _ (show (8 : Nat) ≠ 12 by decide), mS, mS_8, oI, mR, oI, mR, wd_w_row, row_self, row_row, k1]; done) | (simp_all [rf_loop, row_ne _ _ (show (8 : Nat) ≠ 12 by decide), mS, mS_8, oI, mR, oI, mR, wd_w_row, row_self, row_row, k1]; done) | (simp only [wd_w_row, row_self, row_row, i32_add0] at *; simp [rf_loop, row_ne _ _ (show (8 : Nat) ≠ 12 by decide), mS, mS_8, oI, mR, oI, mR, wd_w_row, row_self, row_row, k1]; done))⟩
  · skip
    obtain ⟨rfl, k1l⟩ := lk_some k1
    have k1b : l < 5 := by omega
    refine aw_rV (As := [.int (nI l)]) (S := [.ref (ad 14 0 0)]) (v := some (.int 1)) (o2 := o) (ct_X8_isLoop_some G k1) (mm_fit_of cbX8_isLoop (by decide) (by decide)) wq941 cvX8_isLoop wv14 rfl rfl rfl (Nat.le_of_ble_eq_true rfl) (by decide) (by decide) rfl dX8_loop_3 ?_
    refine aw_if_ne (tgt := 13) (by decide) dX8_loop_6 (fun _ => ?_) (fun z => absurd z (by decide))
    refine aw_iload_n (x := w) rfl dX8_loop_13 ?_
    refine aw_iconst (v := 0) (by decide) dX8_loop_14 ?_
    refine aw_bipush (v := 8) (by decide) dX8_loop_15 ?_
    by_cases w2 : w < 0
    · skip
      refine aw_rS (As := [.int w, .int 0, .int 8]) (S := [.ref (ad 14 0 0)]) (v := some (.int 0)) (o2 := o) (ct_within_lo w2) (mm_fit_of cbX8_within (by decide) (by decide)) wq938 wq939 rfl rfl (Nat.le_of_ble_eq_true rfl) (by decide) (by decide) rfl dX8_loop_17 ?_
      refine aw_if_ne (tgt := 27) (by decide) dX8_loop_20 (fun z => absurd z (by decide)) (fun _ => ?_)
      refine aw_iconst (v := 2) (by decide) dX8_loop_23 ?_
      refine aw_goto (tgt := 28) (by decide) dX8_loop_24 ?_
      refine aw_rV (As := [.int 2]) (S := []) (v := some (.int 1)) (o2 := (wd_w o 12 1 2)) (ct_refused_p (by decide)) (mm_fit_of cbX8_refused (by decide) (by decide)) wq922 cvX8_refused wv14 rfl rfl rfl (Nat.le_of_ble_eq_true rfl) (by decide) (by decide) rfl dX8_loop_28 ?_
      obtain ⟨o2, ho2⟩ : ∃ z, z = (wd_w o 12 1 2) := ⟨_, rfl⟩
      rw [← ho2]
      have Go2 : cg (o2.1 8) n m := by rw [ho2]; rw [wd_w_row, row_ne _ _ (by decide)]; exact G
      refine aw_if_eq (tgt := 38) (by decide) dX8_loop_31 (fun z => absurd z (by decide)) (fun _ => ?_)
      refine aw_iconst (v := 0) (by decide) dX8_loop_34 ?_
      refine aw_goto (tgt := 44) (by decide) dX8_loop_35 ?_
      exact aw_iret rfl (by decide) (by decide) dX8_loop_44 ⟨by (subst ho2; first | with_reducible rfl | (simp [rf_loop, row_ne _ _ (show (8 : Nat) ≠ 12 by decide), mS, mS_8, oI, mR, oI, mR, wd_w_row, row_self, row_row, k1, w2]; done) | (simp_all [rf_loop, row_ne _ _ (show (8 : Nat) ≠ 12 by decide), mS, mS_8, oI, mR, oI, mR, wd_w_row, row_self, row_row, k1, w2]; done) | (simp only [wd_w_row, row_self, row_row, i32_add0] at *; simp [rf_loop, row_ne _ _ (show (8 : Nat) ≠ 12 by decide), mS, mS_8, oI, mR, oI, mR, wd_w_row, row_self, row_row, k1, w2]; done)), by (subst ho2; first | with_reducible rfl | (simp [rf_loop, row_ne _ _ (show (8 : Nat) ≠ 12 by decide), mS, mS_8, oI, mR, oI, mR, wd_w_row, row_self, row_row, k1, w2]; done) | (simp_all [rf_loop, row_ne _ _ (show (8 : Nat) ≠ 12 by decide), mS, mS_8, oI, mR, oI, mR, wd_w_row, row_self, row_row, k1, w2]; done) | (simp only [wd_w_row, row_self, row_row, i32_add0] at *; simp [rf_loop, row_ne _ _ (show (8 : Nat) ≠ 12 by decide), mS, mS_8, oI, mR, oI, mR, wd_w_row, row_self, row_row, k1, w2]; done))⟩
    · skip
      by_cases zw2 : w > 8
      · skip
        refine aw_rS (As := [.int w, .int 0, .int 8]) (S := [.ref (ad 14 0 0)]) (v := some (.int 0)) (o2 := o) (ct_within_hi zw2) (mm_fit_of cbX8_within (by decide) (by decide)) wq938 wq939 rfl rfl (Nat.le_of_ble_eq_true rfl) (by decide) (by decide) rfl dX8_loop_17 ?_
        refine aw_if_ne (tgt := 27) (by decide) dX8_loop_20 (fun z => absurd z (by decide)) (fun _ => ?_)
        refine aw_iconst (v := 2) (by decide) dX8_loop_23 ?_
        refine aw_goto (tgt := 28) (by decide) dX8_loop_24 ?_
        refine aw_rV (As := [.int 2]) (S := []) (v := some (.int 1)) (o2 := (wd_w o 12 1 2)) (ct_refused_p (by decide)) (mm_fit_of cbX8_refused (by decide) (by decide)) wq922 cvX8_refused wv14 rfl rfl rfl (Nat.le_of_ble_eq_true rfl) (by decide) (by decide) rfl dX8_loop_28 ?_
        obtain ⟨o3, ho3⟩ : ∃ z, z = (wd_w o 12 1 2) := ⟨_, rfl⟩
        rw [← ho3]
        have Go3 : cg (o3.1 8) n m := by rw [ho3]; rw [wd_w_row, row_ne _ _ (by decide)]; exact G
        refine aw_if_eq (tgt := 38) (by decide) dX8_loop_31 (fun z => absurd z (by decide)) (fun _ => ?_)
        refine aw_iconst (v := 0) (by decide) dX8_loop_34 ?_
        refine aw_goto (tgt := 44) (by decide) dX8_loop_35 ?_
        exact aw_iret rfl (by decide) (by decide) dX8_loop_44 ⟨by (subst ho3; first | with_reducible rfl | (simp [rf_loop, row_ne _ _ (show (8 : Nat) ≠ 12 by decide), mS, mS_8, oI, mR, oI, mR, wd_w_row, row_self, row_row, k1, w2, zw2]; done) | (simp_all [rf_loop, row_ne _ _ (show (8 : Nat) ≠ 12 by decide), mS, mS_8, oI, mR, oI, mR, wd_w_row, row_self, row_row, k1, w2, zw2]; done) | (simp only [wd_w_row, row_self, row_row, i32_add0] at *; simp [rf_loop, row_ne _ _ (show (8 : Nat) ≠ 12 by decide), mS, mS_8, oI, mR, oI, mR, wd_w_row, row_self, row_row, k1, w2, zw2]; done)), by (subst ho3; first | with_reducible rfl | (simp [rf_loop, row_ne _ _ (show (8 : Nat) ≠ 12 by decide), mS, mS_8, oI, mR, oI, mR, wd_w_row, row_self, row_row, k1, w2, zw2]; done) | (simp_all [rf_loop, row_ne _ _ (show (8 : Nat) ≠ 12 by decide), mS, mS_8, oI, mR, oI, mR, wd_w_row, row_self, row_row, k1, w2, zw2]; done) | (simp only [wd_w_row, row_self, row_row, i32_add0] at *; simp [rf_loop, row_ne _ _ (show (8 : Nat) ≠ 12 by decide), mS, mS_8, oI, mR, oI, mR, wd_w_row, row_self, row_row, k1, w2, zw2]; done))⟩
      · skip
        refine aw_rS (As := [.int w, .int 0, .int 8]) (S := [.ref (ad 14 0 0)]) (v := some (.int 1)) (o2 := o) (ct_within_in w2 zw2) (mm_fit_of cbX8_within (by decide) (by decide)) wq938 wq939 rfl rfl (Nat.le_of_ble_eq_true rfl) (by decide) (by decide) rfl dX8_loop_17 ?_
        refine aw_if_ne (tgt := 27) (by decide) dX8_loop_20 (fun _ => ?_) (fun z => absurd z (by decide))
        refine aw_iconst (v := 0) (by decide) dX8_loop_27 ?_
        refine aw_rV (As := [.int 0]) (S := []) (v := some (.int 0)) (o2 := (wd_w o 12 1 0)) (ct_refused_0) (mm_fit_of cbX8_refused (by decide) (by decide)) wq922 cvX8_refused wv14 rfl rfl rfl (Nat.le_of_ble_eq_true rfl) (by decide) (by decide) rfl dX8_loop_28 ?_
        obtain ⟨o4, ho4⟩ : ∃ z, z = (wd_w o 12 1 0) := ⟨_, rfl⟩
        rw [← ho4]
        have Go4 : cg (o4.1 8) n m := by rw [ho4]; rw [wd_w_row, row_ne _ _ (by decide)]; exact G
        refine aw_if_eq (tgt := 38) (by decide) dX8_loop_31 (fun _ => ?_) (fun z => absurd z (by decide))
        refine aw_aload_n (x := ad 14 0 0) rfl dX8_loop_38 ?_
        refine aw_iload_n (x := (nI l)) rfl dX8_loop_39 ?_
        refine aw_iload_n (x := w) rfl dX8_loop_40 ?_
        refine aw_rV (As := [.int (nI l), .int w]) (S := []) (v := some (.int (mf_tl (o4.1 8) m l w))) (o2 := o4) (ct_X8_tls Go4 (by omega) w2 (le_lt (k := 8) (by decide) zw2)) (mm_fit_of cbX8_toldLoop (by decide) (by decide)) wq1001 cvX8_toldLoop wv14 rfl rfl rfl (Nat.le_of_ble_eq_true rfl) (by decide) (by decide) rfl dX8_loop_41 ?_
        exact aw_iret rfl (by decide) (by decide) dX8_loop_44 ⟨by (subst ho4; first | with_reducible rfl | (simp [rf_loop, row_ne _ _ (show (8 : Nat) ≠ 12 by decide), mS, mS_8, oI, mR, oI, mR, wd_w_row, row_self, row_row, k1, w2, zw2]; done) | (simp_all [rf_loop, row_ne _ _ (show (8 : Nat) ≠ 12 by decide), mS, mS_8, oI, mR, oI, mR, wd_w_row, row_self, row_row, k1, w2, zw2]; done) | (simp only [wd_w_row, row_self, row_row, i32_add0] at *; simp [rf_loop, row_ne _ _ (show (8 : Nat) ≠ 12 by decide), mS, mS_8, oI, mR, oI, mR, wd_w_row, row_self, row_row, k1, w2, zw2]; done)), by (subst ho4; first | with_reducible rfl | (simp [rf_loop, row_ne _ _ (show (8 : Nat) ≠ 12 by decide), mS, mS_8, oI, mR, oI, mR, wd_w_row, row_self, row_row, k1, w2, zw2]; done) | (simp_all [rf_loop, row_ne _ _ (show (8 : Nat) ≠ 12 by decide), mS, mS_8, oI, mR, oI, mR, wd_w_row, row_self, row_row, k1, w2, zw2]; done) | (simp only [wd_w_row, row_self, row_row, i32_add0] at *; simp [rf_loop, row_ne _ _ (show (8 : Nat) ≠ 12 by decide), mS, mS_8, oI, mR, oI, mR, wd_w_row, row_self, row_row, k1, w2, zw2]; done))⟩
