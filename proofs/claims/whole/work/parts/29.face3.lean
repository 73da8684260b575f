/-! PartyLines: its public methods, third part -/
def cf_cost (o : wd_S) (n m : Nat) (x : Int32) : Out := match lk n x with
  | none => oX eI o
  | some l => oI (sumF (cs_cost (o.1 0) m l) 16 0) o
def cf_best (o : wd_S) (n m : Nat) (x : Int32) : Out := match lk n x with
  | none => oX eI o
  | some l => oI (sumF (cs_least (o.1 0) m l) 16 0) o
def cf_assign (o : wd_S) (n m c : Nat) (x : Int32) : Out := match lk n x with
  | none => oX eI o
  | some l => if cs_rung (o.1 0) l = 0 then oI (cs_given m l 16 0 (o.1 0)) (wd_row (cs_sv o c) 0 (cs_give m l 16 0 (o.1 0))) else oX eS o
def cf_fault (o : wd_S) (n m c : Nat) (x k b : Int32) : Out := match lk n x with
  | none => oX eI o
  | some l => if cs_span k = 0 then oX eI o else if cs_flt (o.1 0) l = 0 then oI (sumF (cs_cut1 (cs_break (o.1 0) n m l k b) m l) 16 0) (wd_row (cs_sv o c) 0 (cs_break (o.1 0) n m l k b)) else oX eS o
def cf_mend (o : wd_S) (n m c : Nat) (x : Int32) : Out := match lk n x with
  | none => oX eI o
  | some l => if cs_flt (o.1 0) l = 0 then oX eS o else oI (o.1 0 (20 * l + 7)) (wd_row (cs_sv o c) 0 (cs_mend (o.1 0) n m l))
def cf_isCut (o : wd_S) (m : Nat) (x : Int32) : Out := match lk m x with
  | none => oX eI o
  | some s => oI (cs_cut (o.1 0) (hm (o.1 0) s) s) o
def cf_risk (o : wd_S) (n c : Nat) (x r : Int32) (j : Nat) : Out := match lk n x with
  | none => oX eI o
  | some l => if r < 1 then oX eA o else if r ≤ 9 then oI (o.1 0 (20 * l + 8 + j)) (wd_row (cs_sv o c) 0 (upd (o.1 0) (20 * l + 8 + j) r)) else oX eA o
def cf_risk0 (o : wd_S) (n : Nat) (x : Int32) : Out := oX eI o
def cf_test (o : wd_S) (n : Nat) (x k : Int32) : Out := match lk n x with
  | none => oX eI o
  | some l => if k < 1 then oX eA o else if k < 12 then (if cs_flt (o.1 0) l = 0 then oX eS o else oI (if o.1 0 (20 * l + 7) > k then 0 else 1) o) else oX eA o
def cf_need (o : wd_S) (n : Nat) (x : Int32) : Out := match lk n x with
  | none => oX eI o
  | some l => if cs_flt (o.1 0) l = 0 then oX eS o else oI (nI (cs_find (cs_plan (cs_rk (o.1 0) l) 1 12 (o.1 6, o.1 7)).2 (o.1 0 (20 * l + 7)) 12 0 1 12)) (wt2 o (cs_plan (cs_rk (o.1 0) l) 1 12 (o.1 6, o.1 7)))
theorem cut_01 (B : Nat → Int32) (l s : Nat) : cs_cut B l s = 0 ∨ cs_cut B l s = 1 := by unfold cs_cut; split <;> simp
theorem ct_cost {ad : Nat → Nat → Nat → Nat} {o : wd_S} {n m c : Nat} (V : vs o n m c) {x : Int32} : CT ad MX7_codeCost [.ref (ad 7 0 0), .int x] o (OT (cf_cost o n m x)) := by
  obtain ⟨G, Z, hk, hc⟩ := id V
  obtain ⟨g1, g2, g3, g4, g5, g6⟩ := id G
  refine CT.pi (fun hp => ?_)
  refine CT.of (L := [some (.ref (ad 7 0 0)), some (.int x)]) rfl rfl (by decide) (Nat.le_of_ble_eq_true rfl) rfl ?_
  refine aw_aload_n (x := ad 7 0 0) rfl dX7_codeCost_0 ?_
  refine aw_getr (q := (0, 0, 0)) wv7 rfl flX7_10 rfl rfl dX7_codeCost_1 ?_
  refine aw_aload_n (x := ad 7 0 0) rfl dX7_codeCost_4 ?_
  refine aw_iload_n (x := x) rfl dX7_codeCost_5 ?_
  rcases k0 : lk n x with _ | l
  · skip
    exact aw_xV (As := [.int x]) (S := [.ref (ad 0 0 0)]) (ct_X7_knownLoop_none G k0) (mm_fit_of cbX7_knownLoop (by decide) (by decide)) wq460 cvX7_knownLoop wv7 rfl rfl rfl (Nat.le_of_ble_eq_true rfl) (by decide) (by decide) rfl dX7_codeCost_6 ⟨by (first | with_reducible rfl | (simp [cf_cost, sv_0 hp hc, oI, oX, wd_w_row, row_self, row_row, k0]; done) | (simp_all [cf_cost, sv_0 hp hc, oI, oX, wd_w_row, row_self, row_row, k0]; done)), by (first | with_reducible rfl | (simp [cf_cost, sv_0 hp hc, oI, oX, wd_w_row, row_self, row_row, k0]; done) | (simp_all [cf_cost, sv_0 hp hc, oI, oX, wd_w_row, row_self, row_row, k0]; done))⟩
  · skip
    have hl := (lk_some k0).2
    have hl5 : l < 5 := by omega
    refine aw_rV (As := [.int x]) (S := [.ref (ad 0 0 0)]) (v := some (.ref (ad 1 0 l))) (o2 := o) (ct_X7_knownLoop_some G k0) (mm_fit_of cbX7_knownLoop (by decide) (by decide)) wq460 cvX7_knownLoop wv7 rfl rfl rfl (Nat.le_of_ble_eq_true rfl) (by decide) (by decide) rfl dX7_codeCost_6 ?_
    refine aw_rV (As := [.ref (ad 1 0 l)]) (S := []) (v := some (.int (sumF (cs_cost (o.1 0) m l) 16 0))) (o2 := o) (ct_X5_costOfCodes G hl5) (mm_fit_of cbX5_costOfCodes (by decide) (by decide)) wq312 cvX5_costOfCodes (wv0 (by decide)) rfl rfl rfl (Nat.le_of_ble_eq_true rfl) (by decide) (by decide) rfl dX7_codeCost_9 ?_
    exact aw_iret rfl (by decide) (by decide) dX7_codeCost_12 ⟨by (first | with_reducible rfl | (simp [cf_cost, sv_0 hp hc, oI, oX, wd_w_row, row_self, row_row, k0]; done) | (simp_all [cf_cost, sv_0 hp hc, oI, oX, wd_w_row, row_self, row_row, k0]; done)), by (first | with_reducible rfl | (simp [cf_cost, sv_0 hp hc, oI, oX, wd_w_row, row_self, row_row, k0]; done) | (simp_all [cf_cost, sv_0 hp hc, oI, oX, wd_w_row, row_self, row_row, k0]; done))⟩
theorem ct_best {ad : Nat → Nat → Nat → Nat} {o : wd_S} {n m c : Nat} (V : vs o n m c) {x : Int32} (hr : ∀ l s, mem (o.1 0) m l s → cs_rank (o.1 0) m l s < 14) : CT ad MX7_bestCodes [.ref (ad 7 0 0), .int x] o (OT (cf_best o n m x)) := by
  obtain ⟨G, Z, hk, hc⟩ := id V
  obtain ⟨g1, g2, g3, g4, g5, g6⟩ := id G
  refine CT.pi (fun hp => ?_)
  refine CT.of (L := [some (.ref (ad 7 0 0)), some (.int x)]) rfl rfl (by decide) (Nat.le_of_ble_eq_true rfl) rfl ?_
  refine aw_aload_n (x := ad 7 0 0) rfl dX7_bestCodes_0 ?_
  refine aw_getr (q := (0, 0, 0)) wv7 rfl flX7_10 rfl rfl dX7_bestCodes_1 ?_
  refine aw_aload_n (x := ad 7 0 0) rfl dX7_bestCodes_4 ?_
  refine aw_iload_n (x := x) rfl dX7_bestCodes_5 ?_
  rcases k0 : lk n x with _ | l
  · skip
    exact aw_xV (As := [.int x]) (S := [.ref (ad 0 0 0)]) (ct_X7_knownLoop_none G k0) (mm_fit_of cbX7_knownLoop (by decide) (by decide)) wq460 cvX7_knownLoop wv7 rfl rfl rfl (Nat.le_of_ble_eq_true rfl) (by decide) (by decide) rfl dX7_bestCodes_6 ⟨by (first | with_reducible rfl | (simp [cf_best, sv_0 hp hc, oI, oX, wd_w_row, row_self, row_row, k0]; done) | (simp_all [cf_best, sv_0 hp hc, oI, oX, wd_w_row, row_self, row_row, k0]; done)), by (first | with_reducible rfl | (simp [cf_best, sv_0 hp hc, oI, oX, wd_w_row, row_self, row_row, k0]; done) | (simp_all [cf_best, sv_0 hp hc, oI, oX, wd_w_row, row_self, row_row, k0]; done))⟩
  · skip
    have hl := (lk_some k0).2
    have hl5 : l < 5 := by omega
    refine aw_rV (As := [.int x]) (S := [.ref (ad 0 0 0)]) (v := some (.ref (ad 1 0 l))) (o2 := o) (ct_X7_knownLoop_some G k0) (mm_fit_of cbX7_knownLoop (by decide) (by decide)) wq460 cvX7_knownLoop wv7 rfl rfl rfl (Nat.le_of_ble_eq_true rfl) (by decide) (by decide) rfl dX7_bestCodes_6 ?_
    refine aw_rV (As := [.ref (ad 1 0 l)]) (S := []) (v := some (.int (sumF (cs_least (o.1 0) m l) 16 0))) (o2 := o) (ct_X5_leastCost G hl5 (hr l)) (mm_fit_of cbX5_leastCostOfCodes (by decide) (by decide)) wq740 cvX5_leastCostOfCodes (wv0 (by decide)) rfl rfl rfl (Nat.le_of_ble_eq_true rfl) (by decide) (by decide) rfl dX7_bestCodes_9 ?_
    exact aw_iret rfl (by decide) (by decide) dX7_bestCodes_12 ⟨by (first | with_reducible rfl | (simp [cf_best, sv_0 hp hc, oI, oX, wd_w_row, row_self, row_row, k0]; done) | (simp_all [cf_best, sv_0 hp hc, oI, oX, wd_w_row, row_self, row_row, k0]; done)), by (first | with_reducible rfl | (simp [cf_best, sv_0 hp hc, oI, oX, wd_w_row, row_self, row_row, k0]; done) | (simp_all [cf_best, sv_0 hp hc, oI, oX, wd_w_row, row_self, row_row, k0]; done))⟩
theorem ct_assign {ad : Nat → Nat → Nat → Nat} {o : wd_S} {n m c : Nat} (V : vs o n m c) {x : Int32} (hr : ∀ l s, mem (o.1 0) m l s → cs_rank (o.1 0) m l s < 14) : CT ad MX7_assignCodes [.ref (ad 7 0 0), .int x] o (OT (cf_assign o n m c x)) := by
  obtain ⟨G, Z, hk, hc⟩ := id V
  obtain ⟨g1, g2, g3, g4, g5, g6⟩ := id G
  refine CT.pi (fun hp => ?_)
  refine CT.of (L := [some (.ref (ad 7 0 0)), some (.int x), none]) rfl rfl (by decide) (Nat.le_of_ble_eq_true rfl) rfl ?_
  refine aw_aload_n (x := ad 7 0 0) rfl dX7_assignCodes_0 ?_
  refine aw_iload_n (x := x) rfl dX7_assignCodes_1 ?_
  rcases k0 : lk n x with _ | l
  · skip
    exact aw_xV (As := [.int x]) (S := []) (ct_X7_knownLoop_none G k0) (mm_fit_of cbX7_knownLoop (by decide) (by decide)) wq460 cvX7_knownLoop wv7 rfl rfl rfl (Nat.le_of_ble_eq_true rfl) (by decide) (by decide) rfl dX7_assignCodes_2 ⟨by (first | with_reducible rfl | (simp [cf_assign, sv_0 hp hc, oI, oX, wd_w_row, row_self, row_row, k0]; done) | (simp_all [cf_assign, sv_0 hp hc, oI, oX, wd_w_row, row_self, row_row, k0]; done)), by (first | with_reducible rfl | (simp [cf_assign, sv_0 hp hc, oI, oX, wd_w_row, row_self, row_row, k0]; done) | (simp_all [cf_assign, sv_0 hp hc, oI, oX, wd_w_row, row_self, row_row, k0]; done))⟩
  · skip
    have hl := (lk_some k0).2
    have hl5 : l < 5 := by omega
    refine aw_rV (As := [.int x]) (S := []) (v := some (.ref (ad 1 0 l))) (o2 := o) (ct_X7_knownLoop_some G k0) (mm_fit_of cbX7_knownLoop (by decide) (by decide)) wq460 cvX7_knownLoop wv7 rfl rfl rfl (Nat.le_of_ble_eq_true rfl) (by decide) (by decide) rfl dX7_assignCodes_2 ?_
    refine aw_astore_n (L2 := [some (.ref (ad 7 0 0)), some (.int x), some (.ref (ad 1 0 l))]) (by decide) rfl rfl dX7_assignCodes_5 ?_
    refine aw_aload_n (x := ad 1 0 l) rfl dX7_assignCodes_6 ?_
    refine aw_rV (As := []) (S := []) (v := some (.int (cs_rung (o.1 0) l))) (o2 := o) (ct_X3_isRung (by decide) hl5) (mm_fit_of cbX3_isRung (by decide) (by decide)) wq535 cvX3_isRung (wv1 (by decide) hl5) rfl rfl rfl (Nat.le_of_ble_eq_true rfl) (by decide) (by decide) rfl dX7_assignCodes_7 ?_
    refine aw_if_eq (tgt := 23) (by decide) dX7_assignCodes_10 (fun b1 => ?_) (fun b1 => ?_)
    · skip
      refine aw_aload_n (x := ad 7 0 0) rfl dX7_assignCodes_23 ?_
      refine aw_getr (q := (9, 0, 0)) wv7 rfl flX7_28 rfl rfl dX7_assignCodes_24 ?_
      refine aw_aload_n (x := ad 7 0 0) rfl dX7_assignCodes_27 ?_
      refine aw_getr (q := (0, 0, 0)) wv7 rfl flX7_10 rfl rfl dX7_assignCodes_28 ?_
      refine aw_rV (As := [.ref (ad 0 0 0)]) (S := []) (v := none) (o2 := (cs_sv o c)) (ct_X2_save G hk hc Z) (mm_fit_of cbX2_save (by decide) (by decide)) wq423 cvX2_save wv9 rfl rfl rfl (Nat.le_of_ble_eq_true rfl) (by decide) (by decide) rfl dX7_assignCodes_31 ?_
      obtain ⟨o1, ho1⟩ : ∃ z, z = (cs_sv o c) := ⟨_, rfl⟩
      rw [← ho1]
      have Go1 : cg (o1.1 0) n m := by rw [ho1]; rw [sv_0 hp hc]; exact G
      refine aw_aload_n (x := ad 7 0 0) rfl dX7_assignCodes_34 ?_
      refine aw_getr (q := (0, 0, 0)) wv7 rfl flX7_10 rfl rfl dX7_assignCodes_35 ?_
      refine aw_aload_n (x := ad 1 0 l) rfl dX7_assignCodes_38 ?_
      refine aw_rV (As := [.ref (ad 1 0 l)]) (S := []) (v := some (.int (cs_given m l 16 0 (o1.1 0)))) (o2 := (wd_row o1 0 (cs_give m l 16 0 (o1.1 0)))) (ct_X5_give Go1 hl5 (by rw [ho1, sv_0 hp hc]; exact hr l)) (mm_fit_of cbX5_giveBestCodes (by decide) (by decide)) wq765 cvX5_giveBestCodes (wv0 (by decide)) rfl rfl rfl (Nat.le_of_ble_eq_true rfl) (by decide) (by decide) rfl dX7_assignCodes_39 ?_
      exact aw_iret rfl (by decide) (by decide) dX7_assignCodes_42 ⟨by (subst ho1; first | with_reducible rfl | (simp [cf_assign, sv_0 hp hc, oI, oX, wd_w_row, row_self, row_row, k0, b1]; done) | (simp_all [cf_assign, sv_0 hp hc, oI, oX, wd_w_row, row_self, row_row, k0, b1]; done)), by (subst ho1; first | with_reducible rfl | (simp [cf_assign, sv_0 hp hc, oI, oX, wd_w_row, row_self, row_row, k0, b1]; done) | (simp_all [cf_assign, sv_0 hp hc, oI, oX, wd_w_row, row_self, row_row, k0, b1]; done))⟩
    · skip
      exact aw_throw th43_47 rfl (text := "codes of the loop are rung") (by decide) rfl dX7_assignCodes_13 dX7_assignCodes_16 dX7_assignCodes_17 dX7_assignCodes_19 dX7_assignCodes_22 (by decide) (Nat.le_of_ble_eq_true rfl) (by decide) (by decide) ⟨by (first | with_reducible rfl | (simp [cf_assign, sv_0 hp hc, oI, oX, wd_w_row, row_self, row_row, k0, b1]; done) | (simp_all [cf_assign, sv_0 hp hc, oI, oX, wd_w_row, row_self, row_row, k0, b1]; done)), by (first | with_reducible rfl | (simp [cf_assign, sv_0 hp hc, oI, oX, wd_w_row, row_self, row_row, k0, b1]; done) | (simp_all [cf_assign, sv_0 hp hc, oI, oX, wd_w_row, row_self, row_row, k0, b1]; done))⟩
theorem ct_fault {ad : Nat → Nat → Nat → Nat} {o : wd_S} {n m c : Nat} (V : vs o n m c) {x k b : Int32} (hb : b = 0 ∨ b = 1) : CT ad MX7_fault [.ref (ad 7 0 0), .int x, .int k, .int b] o (OT (cf_fault o n m c x k b)) := by
  obtain ⟨G, Z, hk, hc⟩ := id V
  obtain ⟨g1, g2, g3, g4, g5, g6⟩ := id G
  refine CT.pi (fun hp => ?_)
  refine CT.of (L := [some (.ref (ad 7 0 0)), some (.int x), some (.int k), some (.int b), none]) rfl rfl (by decide) (Nat.le_of_ble_eq_true rfl) rfl ?_
  refine aw_aload_n (x := ad 7 0 0) rfl dX7_fault_0 ?_
  refine aw_iload_n (x := x) rfl dX7_fault_1 ?_
  rcases k0 : lk n x with _ | l
  · skip
    exact aw_xV (As := [.int x]) (S := []) (ct_X7_knownLoop_none G k0) (mm_fit_of cbX7_knownLoop (by decide) (by decide)) wq460 cvX7_knownLoop wv7 rfl rfl rfl (Nat.le_of_ble_eq_true rfl) (by decide) (by decide) rfl dX7_fault_2 ⟨by (first | with_reducible rfl | (simp [cf_fault, sv_0 hp hc, oI, oX, wd_w_row, row_self, row_row, k0]; done) | (simp_all [cf_fault, sv_0 hp hc, oI, oX, wd_w_row, row_self, row_row, k0]; done)), by (first | with_reducible rfl | (simp [cf_fault, sv_0 hp hc, oI, oX, wd_w_row, row_self, row_row, k0]; done) | (simp_all [cf_fault, sv_0 hp hc, oI, oX, wd_w_row, row_self, row_row, k0]; done))⟩
  · skip
    have hl := (lk_some k0).2
    have hl5 : l < 5 := by omega
    refine aw_rV (As := [.int x]) (S := []) (v := some (.ref (ad 1 0 l))) (o2 := o) (ct_X7_knownLoop_some G k0) (mm_fit_of cbX7_knownLoop (by decide) (by decide)) wq460 cvX7_knownLoop wv7 rfl rfl rfl (Nat.le_of_ble_eq_true rfl) (by decide) (by decide) rfl dX7_fault_2 ?_
    refine aw_astore (L2 := [some (.ref (ad 7 0 0)), some (.int x), some (.int k), some (.int b), some (.ref (ad 1 0 l))]) (by decide) rfl rfl dX7_fault_5 ?_
    refine aw_iload_n (x := k) rfl dX7_fault_7 ?_
    refine aw_rS (As := [.int k]) (S := []) (v := some (.int (cs_span k))) (o2 := o) ct_X7_isSpan (mm_fit_of cbX7_isSpan (by decide) (by decide)) wq480 wq481 rfl rfl (Nat.le_of_ble_eq_true rfl) (by decide) (by decide) rfl dX7_fault_8 ?_
    refine aw_if_ne (tgt := 24) (by decide) dX7_fault_11 (fun b1 => ?_) (fun b1 => ?_)
    · skip
      refine aw_aload (x := ad 1 0 l) rfl dX7_fault_24 ?_
      refine aw_rV (As := []) (S := []) (v := some (.int (cs_flt (o.1 0) l))) (o2 := o) (ct_X3_hasFault (by decide) hl5) (mm_fit_of cbX3_hasFault (by decide) (by decide)) wq777 cvX3_hasFault (wv1 (by decide) hl5) rfl rfl rfl (Nat.le_of_ble_eq_true rfl) (by decide) (by decide) rfl dX7_fault_26 ?_
      refine aw_if_eq (tgt := 42) (by decide) dX7_fault_29 (fun b2 => ?_) (fun b2 => ?_)
      · skip
        refine aw_aload_n (x := ad 7 0 0) rfl dX7_fault_42 ?_
        refine aw_getr (q := (9, 0, 0)) wv7 rfl flX7_28 rfl rfl dX7_fault_43 ?_
        refine aw_aload_n (x := ad 7 0 0) rfl dX7_fault_46 ?_
        refine aw_getr (q := (0, 0, 0)) wv7 rfl flX7_10 rfl rfl dX7_fault_47 ?_
        refine aw_rV (As := [.ref (ad 0 0 0)]) (S := []) (v := none) (o2 := (cs_sv o c)) (ct_X2_save G hk hc Z) (mm_fit_of cbX2_save (by decide) (by decide)) wq423 cvX2_save wv9 rfl rfl rfl (Nat.le_of_ble_eq_true rfl) (by decide) (by decide) rfl dX7_fault_50 ?_
        obtain ⟨o1, ho1⟩ : ∃ z, z = (cs_sv o c) := ⟨_, rfl⟩
        rw [← ho1]
        have Go1 : cg (o1.1 0) n m := by rw [ho1]; rw [sv_0 hp hc]; exact G
        refine aw_aload_n (x := ad 7 0 0) rfl dX7_fault_53 ?_
        refine aw_getr (q := (8, 0, 0)) wv7 rfl flX7_21 rfl rfl dX7_fault_54 ?_
        refine aw_aload (x := ad 1 0 l) rfl dX7_fault_57 ?_
        refine aw_iload_n (x := k) rfl dX7_fault_59 ?_
        refine aw_iload_n (x := b) rfl dX7_fault_60 ?_
        refine aw_rV (As := [.ref (ad 1 0 l), .int k, .int b]) (S := []) (v := none) (o2 := (wd_row o1 0 (cs_break (o1.1 0) n m l k b))) (ct_X1_break Go1 hl5 hb) (mm_fit_of cbX1_breakSpan (by decide) (by decide)) wq779 cvX1_breakSpan wv8 rfl rfl rfl (Nat.le_of_ble_eq_true rfl) (by decide) (by decide) rfl dX7_fault_61 ?_
        obtain ⟨o2, ho2⟩ : ∃ z, z = (wd_row o1 0 (cs_break (o1.1 0) n m l k b)) := ⟨_, rfl⟩
        rw [← ho2]
        have Go2 : cg (o2.1 0) n m := by rw [ho2]; rw [row_self]; exact cg_stl (stl_break g2 hl5) Go1
        refine aw_aload_n (x := ad 7 0 0) rfl dX7_fault_64 ?_
        refine aw_getr (q := (0, 0, 0)) wv7 rfl flX7_10 rfl rfl dX7_fault_65 ?_
        refine aw_aload (x := ad 1 0 l) rfl dX7_fault_68 ?_
        refine aw_rV (As := [.ref (ad 1 0 l)]) (S := []) (v := some (.int (sumF (cs_cut1 (o2.1 0) m l) 16 0))) (o2 := o2) (ct_X5_countCutOff Go2 hl5) (mm_fit_of cbX5_countCutOff (by decide) (by decide)) wq783 cvX5_countCutOff (wv0 (by decide)) rfl rfl rfl (Nat.le_of_ble_eq_true rfl) (by decide) (by decide) rfl dX7_fault_70 ?_
        exact aw_iret rfl (by decide) (by decide) dX7_fault_73 ⟨by (subst ho2; subst ho1; first | with_reducible rfl | (simp [cf_fault, sv_0 hp hc, oI, oX, wd_w_row, row_self, row_row, k0, b1, b2]; done) | (simp_all [cf_fault, sv_0 hp hc, oI, oX, wd_w_row, row_self, row_row, k0, b1, b2]; done)), by (subst ho2; subst ho1; first | with_reducible rfl | (simp [cf_fault, sv_0 hp hc, oI, oX, wd_w_row, row_self, row_row, k0, b1, b2]; done) | (simp_all [cf_fault, sv_0 hp hc, oI, oX, wd_w_row, row_self, row_row, k0, b1, b2]; done))⟩
      · skip
        exact aw_throw th43_47 rfl (text := "the loop has a fault") (by decide) rfl dX7_fault_32 dX7_fault_35 dX7_fault_36 dX7_fault_38 dX7_fault_41 (by decide) (Nat.le_of_ble_eq_true rfl) (by decide) (by decide) ⟨by (first | with_reducible rfl | (simp [cf_fault, sv_0 hp hc, oI, oX, wd_w_row, row_self, row_row, k0, b1, b2]; done) | (simp_all [cf_fault, sv_0 hp hc, oI, oX, wd_w_row, row_self, row_row, k0, b1, b2]; done)), by (first | with_reducible rfl | (simp [cf_fault, sv_0 hp hc, oI, oX, wd_w_row, row_self, row_row, k0, b1, b2]; done) | (simp_all [cf_fault, sv_0 hp hc, oI, oX, wd_w_row, row_self, row_row, k0, b1, b2]; done))⟩
    · skip
      exact aw_throw th218_222 rfl (text := "no such span") (by decide) rfl dX7_fault_14 dX7_fault_17 dX7_fault_18 dX7_fault_20 dX7_fault_23 (by decide) (Nat.le_of_ble_eq_true rfl) (by decide) (by decide) ⟨by (first | with_reducible rfl | (simp [cf_fault, sv_0 hp hc, oI, oX, wd_w_row, row_self, row_row, k0, b1]; done) | (simp_all [cf_fault, sv_0 hp hc, oI, oX, wd_w_row, row_self, row_row, k0, b1]; done)), by (first | with_reducible rfl | (simp [cf_fault, sv_0 hp hc, oI, oX, wd_w_row, row_self, row_row, k0, b1]; done) | (simp_all [cf_fault, sv_0 hp hc, oI, oX, wd_w_row, row_self, row_row, k0, b1]; done))⟩
theorem ct_mend {ad : Nat → Nat → Nat → Nat} {o : wd_S} {n m c : Nat} (V : vs o n m c) {x : Int32} : CT ad MX7_mend [.ref (ad 7 0 0), .int x] o (OT (cf_mend o n m c x)) := by
  obtain ⟨G, Z, hk, hc⟩ := id V
  obtain ⟨g1, g2, g3, g4, g5, g6⟩ := id G
  refine CT.pi (fun hp => ?_)
  refine CT.of (L := [some (.ref (ad 7 0 0)), some (.int x), none, none]) rfl rfl (by decide) (Nat.le_of_ble_eq_true rfl) rfl ?_
  refine aw_aload_n (x := ad 7 0 0) rfl dX7_mend_0 ?_
  refine aw_iload_n (x := x) rfl dX7_mend_1 ?_
  rcases k0 : lk n x with _ | l
  · skip
    exact aw_xV (As := [.int x]) (S := []) (ct_X7_knownLoop_none G k0) (mm_fit_of cbX7_knownLoop (by decide) (by decide)) wq460 cvX7_knownLoop wv7 rfl rfl rfl (Nat.le_of_ble_eq_true rfl) (by decide) (by decide) rfl dX7_mend_2 ⟨by (first | with_reducible rfl | (simp [cf_mend, sv_0 hp hc, oI, oX, wd_w_row, row_self, row_row, k0]; done) | (simp_all [cf_mend, sv_0 hp hc, oI, oX, wd_w_row, row_self, row_row, k0]; done)), by (first | with_reducible rfl | (simp [cf_mend, sv_0 hp hc, oI, oX, wd_w_row, row_self, row_row, k0]; done) | (simp_all [cf_mend, sv_0 hp hc, oI, oX, wd_w_row, row_self, row_row, k0]; done))⟩
  · skip
    have hl := (lk_some k0).2
    have hl5 : l < 5 := by omega
    refine aw_rV (As := [.int x]) (S := []) (v := some (.ref (ad 1 0 l))) (o2 := o) (ct_X7_knownLoop_some G k0) (mm_fit_of cbX7_knownLoop (by decide) (by decide)) wq460 cvX7_knownLoop wv7 rfl rfl rfl (Nat.le_of_ble_eq_true rfl) (by decide) (by decide) rfl dX7_mend_2 ?_
    refine aw_astore_n (L2 := [some (.ref (ad 7 0 0)), some (.int x), some (.ref (ad 1 0 l)), none]) (by decide) rfl rfl dX7_mend_5 ?_
    refine aw_aload_n (x := ad 1 0 l) rfl dX7_mend_6 ?_
    refine aw_rV (As := []) (S := []) (v := some (.int (cs_flt (o.1 0) l))) (o2 := o) (ct_X3_hasFault (by decide) hl5) (mm_fit_of cbX3_hasFault (by decide) (by decide)) wq777 cvX3_hasFault (wv1 (by decide) hl5) rfl rfl rfl (Nat.le_of_ble_eq_true rfl) (by decide) (by decide) rfl dX7_mend_7 ?_
    refine aw_if_ne (tgt := 23) (by decide) dX7_mend_10 (fun b1 => ?_) (fun b1 => ?_)
    · skip
      refine aw_aload_n (x := ad 7 0 0) rfl dX7_mend_23 ?_
      refine aw_getr (q := (9, 0, 0)) wv7 rfl flX7_28 rfl rfl dX7_mend_24 ?_
      refine aw_aload_n (x := ad 7 0 0) rfl dX7_mend_27 ?_
      refine aw_getr (q := (0, 0, 0)) wv7 rfl flX7_10 rfl rfl dX7_mend_28 ?_
      refine aw_rV (As := [.ref (ad 0 0 0)]) (S := []) (v := none) (o2 := (cs_sv o c)) (ct_X2_save G hk hc Z) (mm_fit_of cbX2_save (by decide) (by decide)) wq423 cvX2_save wv9 rfl rfl rfl (Nat.le_of_ble_eq_true rfl) (by decide) (by decide) rfl dX7_mend_31 ?_
      obtain ⟨o1, ho1⟩ : ∃ z, z = (cs_sv o c) := ⟨_, rfl⟩
      rw [← ho1]
      have Go1 : cg (o1.1 0) n m := by rw [ho1]; rw [sv_0 hp hc]; exact G
      refine aw_aload_n (x := ad 1 0 l) rfl dX7_mend_34 ?_
      refine aw_geti (q := (0, 20 * l + 7)) (x := o1.1 0 (20 * l + 7)) (wv1 (by decide) hl5) rfl rfl flX7_237 rfl (Or.inl rfl) dX7_mend_35 ?_
      refine aw_istore_n (L2 := [some (.ref (ad 7 0 0)), some (.int x), some (.ref (ad 1 0 l)), some (.int (o1.1 0 (20 * l + 7)))]) (by decide) rfl rfl dX7_mend_38 ?_
      refine aw_aload_n (x := ad 7 0 0) rfl dX7_mend_39 ?_
      refine aw_getr (q := (8, 0, 0)) wv7 rfl flX7_21 rfl rfl dX7_mend_40 ?_
      refine aw_aload_n (x := ad 1 0 l) rfl dX7_mend_43 ?_
      refine aw_rV (As := [.ref (ad 1 0 l)]) (S := []) (v := none) (o2 := (wd_row o1 0 (cs_mend (o1.1 0) n m l))) (ct_X1_mend Go1 hl5) (mm_fit_of cbX1_mendSpan (by decide) (by decide)) wq795 cvX1_mendSpan wv8 rfl rfl rfl (Nat.le_of_ble_eq_true rfl) (by decide) (by decide) rfl dX7_mend_44 ?_
      refine aw_iload_n (x := (o1.1 0 (20 * l + 7))) rfl dX7_mend_47 ?_
      exact aw_iret rfl (by decide) (by decide) dX7_mend_48 ⟨by (subst ho1; first | with_reducible rfl | (simp [cf_mend, sv_0 hp hc, oI, oX, wd_w_row, row_self, row_row, k0, b1]; done) | (simp_all [cf_mend, sv_0 hp hc, oI, oX, wd_w_row, row_self, row_row, k0, b1]; done)), by (subst ho1; first | with_reducible rfl | (simp [cf_mend, sv_0 hp hc, oI, oX, wd_w_row, row_self, row_row, k0, b1]; done) | (simp_all [cf_mend, sv_0 hp hc, oI, oX, wd_w_row, row_self, row_row, k0, b1]; done))⟩
    · skip
      exact aw_throw th43_47 rfl (text := "the loop has no fault") (by decide) rfl dX7_mend_13 dX7_mend_16 dX7_mend_17 dX7_mend_19 dX7_mend_22 (by decide) (Nat.le_of_ble_eq_true rfl) (by decide) (by decide) ⟨by (first | with_reducible rfl | (simp [cf_mend, sv_0 hp hc, oI, oX, wd_w_row, row_self, row_row, k0, b1]; done) | (simp_all [cf_mend, sv_0 hp hc, oI, oX, wd_w_row, row_self, row_row, k0, b1]; done)), by (first | with_reducible rfl | (simp [cf_mend, sv_0 hp hc, oI, oX, wd_w_row, row_self, row_row, k0, b1]; done) | (simp_all [cf_mend, sv_0 hp hc, oI, oX, wd_w_row, row_self, row_row, k0, b1]; done))⟩
theorem ct_isCut {ad : Nat → Nat → Nat → Nat} {o : wd_S} {n m c : Nat} (V : vs o n m c) {x : Int32} : CT ad MX7_isCut [.ref (ad 7 0 0), .int x] o (OT (cf_isCut o m x)) := by
  obtain ⟨G, Z, hk, hc⟩ := id V
  obtain ⟨g1, g2, g3, g4, g5, g6⟩ := id G
  refine CT.pi (fun hp => ?_)
  refine CT.of (L := [some (.ref (ad 7 0 0)), some (.int x)]) rfl rfl (by decide) (Nat.le_of_ble_eq_true rfl) rfl ?_
  refine aw_aload_n (x := ad 7 0 0) rfl dX7_isCut_0 ?_
  refine aw_getr (q := (0, 0, 0)) wv7 rfl flX7_10 rfl rfl dX7_isCut_1 ?_
  refine aw_aload_n (x := ad 7 0 0) rfl dX7_isCut_4 ?_
  refine aw_iload_n (x := x) rfl dX7_isCut_5 ?_
  rcases k0 : lk m x with _ | s
  · skip
    exact aw_xV (As := [.int x]) (S := [.ref (ad 0 0 0)]) (ct_X7_knownSub_none G k0) (mm_fit_of cbX7_knownSubscriber (by decide) (by decide)) wq522 cvX7_knownSubscriber wv7 rfl rfl rfl (Nat.le_of_ble_eq_true rfl) (by decide) (by decide) rfl dX7_isCut_6 ⟨by (first | with_reducible rfl | (simp [cf_isCut, sv_0 hp hc, oI, oX, wd_w_row, row_self, row_row, k0]; done) | (simp_all [cf_isCut, sv_0 hp hc, oI, oX, wd_w_row, row_self, row_row, k0]; done)), by (first | with_reducible rfl | (simp [cf_isCut, sv_0 hp hc, oI, oX, wd_w_row, row_self, row_row, k0]; done) | (simp_all [cf_isCut, sv_0 hp hc, oI, oX, wd_w_row, row_self, row_row, k0]; done))⟩
  · skip
    have hs := (lk_some k0).2
    have hs16 : s < 16 := by omega
    obtain ⟨l, hl, hh⟩ := g5 s hs
    have hl5 : l < 5 := by omega
    have hme : hm (o.1 0) s = l := hm_of hh hl5
    refine aw_rV (As := [.int x]) (S := [.ref (ad 0 0 0)]) (v := some (.ref (ad 3 0 s))) (o2 := o) (ct_X7_knownSub_some G k0) (mm_fit_of cbX7_knownSubscriber (by decide) (by decide)) wq522 cvX7_knownSubscriber wv7 rfl rfl rfl (Nat.le_of_ble_eq_true rfl) (by decide) (by decide) rfl dX7_isCut_6 ?_
    refine aw_rV (As := [.ref (ad 3 0 s)]) (S := []) (v := some (.int (cs_cut (o.1 0) l s))) (o2 := o) (ct_X5_isCutOff G hl hs hh) (mm_fit_of cbX5_isCutOff (by decide) (by decide)) wq811 cvX5_isCutOff (wv0 (by decide)) rfl rfl rfl (Nat.le_of_ble_eq_true rfl) (by decide) (by decide) rfl dX7_isCut_9 ?_
    exact aw_zret rfl (cut_01 _ _ _) (by decide) (by decide) dX7_isCut_12 ⟨by (first | with_reducible rfl | (simp [cf_isCut, sv_0 hp hc, oI, oX, wd_w_row, row_self, row_row, k0, hme]; done) | (simp_all [cf_isCut, sv_0 hp hc, oI, oX, wd_w_row, row_self, row_row, k0, hme]; done)), by (first | with_reducible rfl | (simp [cf_isCut, sv_0 hp hc, oI, oX, wd_w_row, row_self, row_row, k0, hme]; done) | (simp_all [cf_isCut, sv_0 hp hc, oI, oX, wd_w_row, row_self, row_row, k0, hme]; done))⟩
theorem ct_risk {ad : Nat → Nat → Nat → Nat} {o : wd_S} {n m c : Nat} (V : vs o n m c) {x r : Int32} {j : Nat} (hj1 : 1 ≤ j) (hj2 : j ≤ 12) : CT ad MX7_setRisk [.ref (ad 7 0 0), .int x, .int (nI j), .int r] o (OT (cf_risk o n c x r j)) := by
  obtain ⟨G, Z, hk, hc⟩ := id V
  obtain ⟨g1, g2, g3, g4, g5, g6⟩ := id G
  refine CT.pi (fun hp => ?_)
  refine CT.of (L := [some (.ref (ad 7 0 0)), some (.int x), some (.int (nI j)), some (.int r), none, none]) rfl rfl (by decide) (Nat.le_of_ble_eq_true rfl) rfl ?_
  refine aw_aload_n (x := ad 7 0 0) rfl dX7_setRisk_0 ?_
  refine aw_iload_n (x := x) rfl dX7_setRisk_1 ?_
  rcases k0 : lk n x with _ | l
  · skip
    exact aw_xV (As := [.int x]) (S := []) (ct_X7_knownLoop_none G k0) (mm_fit_of cbX7_knownLoop (by decide) (by decide)) wq460 cvX7_knownLoop wv7 rfl rfl rfl (Nat.le_of_ble_eq_true rfl) (by decide) (by decide) rfl dX7_setRisk_2 ⟨by (first | with_reducible rfl | (simp [cf_risk, sv_0 hp hc, oI, oX, wd_w_row, row_self, row_row, k0]; done) | (simp_all [cf_risk, sv_0 hp hc, oI, oX, wd_w_row, row_self, row_row, k0]; done)), by (first | with_reducible rfl | (simp [cf_risk, sv_0 hp hc, oI, oX, wd_w_row, row_self, row_row, k0]; done) | (simp_all [cf_risk, sv_0 hp hc, oI, oX, wd_w_row, row_self, row_row, k0]; done))⟩
  · skip
    have hl := (lk_some k0).2
    have hl5 : l < 5 := by omega
    refine aw_rV (As := [.int x]) (S := []) (v := some (.ref (ad 1 0 l))) (o2 := o) (ct_X7_knownLoop_some G k0) (mm_fit_of cbX7_knownLoop (by decide) (by decide)) wq460 cvX7_knownLoop wv7 rfl rfl rfl (Nat.le_of_ble_eq_true rfl) (by decide) (by decide) rfl dX7_setRisk_2 ?_
    refine aw_astore (L2 := [some (.ref (ad 7 0 0)), some (.int x), some (.int (nI j)), some (.int r), some (.ref (ad 1 0 l)), none]) (by decide) rfl rfl dX7_setRisk_5 ?_
    refine aw_iload_n (x := (nI j)) rfl dX7_setRisk_7 ?_
    refine aw_rS (As := [.int (nI j)]) (S := []) (v := some (.int (cs_span (nI j)))) (o2 := o) ct_X7_isSpan (mm_fit_of cbX7_isSpan (by decide) (by decide)) wq480 wq481 rfl rfl (Nat.le_of_ble_eq_true rfl) (by decide) (by decide) rfl dX7_setRisk_8 ?_
    refine aw_if_ne (tgt := 24) (by decide) dX7_setRisk_11 (fun _ => ?_) (fun z => absurd z (by rw [span_1 hj1 hj2]; decide))
    refine aw_iload_n (x := r) rfl dX7_setRisk_24 ?_
    refine aw_iconst (v := 1) (by decide) dX7_setRisk_25 ?_
    refine aw_icmp_lt (tgt := 35) (by decide) dX7_setRisk_26 (fun b1 => ?_) (fun b1 => ?_)
    · skip
      exact aw_throw th70_74 rfl (text := "risk is out of range") (by decide) rfl dX7_setRisk_35 dX7_setRisk_38 dX7_setRisk_39 dX7_setRisk_41 dX7_setRisk_44 (by decide) (Nat.le_of_ble_eq_true rfl) (by decide) (by decide) ⟨by (first | with_reducible rfl | (simp [cf_risk, sv_0 hp hc, oI, oX, wd_w_row, row_self, row_row, k0, b1]; done) | (simp_all [cf_risk, sv_0 hp hc, oI, oX, wd_w_row, row_self, row_row, k0, b1]; done)), by (first | with_reducible rfl | (simp [cf_risk, sv_0 hp hc, oI, oX, wd_w_row, row_self, row_row, k0, b1]; done) | (simp_all [cf_risk, sv_0 hp hc, oI, oX, wd_w_row, row_self, row_row, k0, b1]; done))⟩
    · skip
      refine aw_iload_n (x := r) rfl dX7_setRisk_29 ?_
      refine aw_bipush (v := 9) (by decide) dX7_setRisk_30 ?_
      refine aw_icmp_le (tgt := 45) (by decide) dX7_setRisk_32 (fun b2 => ?_) (fun b2 => ?_)
      · skip
        refine aw_aload_n (x := ad 7 0 0) rfl dX7_setRisk_45 ?_
        refine aw_getr (q := (9, 0, 0)) wv7 rfl flX7_28 rfl rfl dX7_setRisk_46 ?_
        refine aw_aload_n (x := ad 7 0 0) rfl dX7_setRisk_49 ?_
        refine aw_getr (q := (0, 0, 0)) wv7 rfl flX7_10 rfl rfl dX7_setRisk_50 ?_
        refine aw_rV (As := [.ref (ad 0 0 0)]) (S := []) (v := none) (o2 := (cs_sv o c)) (ct_X2_save G hk hc Z) (mm_fit_of cbX2_save (by decide) (by decide)) wq423 cvX2_save wv9 rfl rfl rfl (Nat.le_of_ble_eq_true rfl) (by decide) (by decide) rfl dX7_setRisk_53 ?_
        obtain ⟨o1, ho1⟩ : ∃ z, z = (cs_sv o c) := ⟨_, rfl⟩
        rw [← ho1]
        have Go1 : cg (o1.1 0) n m := by rw [ho1]; rw [sv_0 hp hc]; exact G
        refine aw_aload (x := ad 1 0 l) rfl dX7_setRisk_56 ?_
        refine aw_getr (q := (2, 0, l)) (wv1 (by decide) hl5) rfl flX7_250 rfl rfl dX7_setRisk_58 ?_
        refine aw_iload_n (x := (nI j)) rfl dX7_setRisk_61 ?_
        refine aw_ild (x := j) (q := (0, 20 * l + 8 + j)) (y := o1.1 0 (20 * l + 8 + j)) rfl (wv2 (j := 0) (i := l) (by decide) (by omega)) (wi2 (by omega)) rfl (by show _ < 13; omega) rfl dX7_setRisk_62 ?_
        refine aw_istore (L2 := [some (.ref (ad 7 0 0)), some (.int x), some (.int (nI j)), some (.int r), some (.ref (ad 1 0 l)), some (.int (o1.1 0 (20 * l + 8 + j)))]) (by decide) rfl rfl dX7_setRisk_63 ?_
        refine aw_aload (x := ad 1 0 l) rfl dX7_setRisk_65 ?_
        refine aw_getr (q := (2, 0, l)) (wv1 (by decide) hl5) rfl flX7_250 rfl rfl dX7_setRisk_67 ?_
        refine aw_iload_n (x := (nI j)) rfl dX7_setRisk_70 ?_
        refine aw_iload_n (x := r) rfl dX7_setRisk_71 ?_
        refine aw_ist (x := j) (q := (0, 20 * l + 8 + j)) (y := r) rfl (wv2 (j := 0) (i := l) (by decide) (by omega)) (wi2 (by omega)) (by show _ < 13; omega) rfl dX7_setRisk_72 ?_
        refine aw_iload (x := (o1.1 0 (20 * l + 8 + j))) rfl dX7_setRisk_73 ?_
        exact aw_iret rfl (by decide) (by decide) dX7_setRisk_75 ⟨by (subst ho1; first | with_reducible rfl | (simp [cf_risk, sv_0 hp hc, oI, oX, wd_w_row, row_self, row_row, k0, b1, b2]; done) | (simp_all [cf_risk, sv_0 hp hc, oI, oX, wd_w_row, row_self, row_row, k0, b1, b2]; done)), by (subst ho1; first | with_reducible rfl | (simp [cf_risk, sv_0 hp hc, oI, oX, wd_w_row, row_self, row_row, k0, b1, b2]; done) | (simp_all [cf_risk, sv_0 hp hc, oI, oX, wd_w_row, row_self, row_row, k0, b1, b2]; done))⟩
      · skip
        exact aw_throw th70_74 rfl (text := "risk is out of range") (by decide) rfl dX7_setRisk_35 dX7_setRisk_38 dX7_setRisk_39 dX7_setRisk_41 dX7_setRisk_44 (by decide) (Nat.le_of_ble_eq_true rfl) (by decide) (by decide) ⟨by (first | with_reducible rfl | (simp [cf_risk, sv_0 hp hc, oI, oX, wd_w_row, row_self, row_row, k0, b1, b2]; done) | (simp_all [cf_risk, sv_0 hp hc, oI, oX, wd_w_row, row_self, row_row, k0, b1, b2]; done)), by (first | with_reducible rfl | (simp [cf_risk, sv_0 hp hc, oI, oX, wd_w_row, row_self, row_row, k0, b1, b2]; done) | (simp_all [cf_risk, sv_0 hp hc, oI, oX, wd_w_row, row_self, row_row, k0, b1, b2]; done))⟩
theorem ct_risk_bad {ad : Nat → Nat → Nat → Nat} {o : wd_S} {n m c : Nat} (V : vs o n m c) {x k r : Int32} (hb : cs_span k = 0) : CT ad MX7_setRisk [.ref (ad 7 0 0), .int x, .int k, .int r] o (OT (oX eI o)) := by
  obtain ⟨G, Z, hk, hc⟩ := id V
  obtain ⟨g1, g2, g3, g4, g5, g6⟩ := id G
  refine CT.pi (fun hp => ?_)
  refine CT.of (L := [some (.ref (ad 7 0 0)), some (.int x), some (.int k), some (.int r), none, none]) rfl rfl (by decide) (Nat.le_of_ble_eq_true rfl) rfl ?_
  refine aw_aload_n (x := ad 7 0 0) rfl dX7_setRisk_0 ?_
  refine aw_iload_n (x := x) rfl dX7_setRisk_1 ?_
  rcases k0 : lk n x with _ | l
  · skip
    exact aw_xV (As := [.int x]) (S := []) (ct_X7_knownLoop_none G k0) (mm_fit_of cbX7_knownLoop (by decide) (by decide)) wq460 cvX7_knownLoop wv7 rfl rfl rfl (Nat.le_of_ble_eq_true rfl) (by decide) (by decide) rfl dX7_setRisk_2 ⟨by (first | with_reducible rfl | (simp [sv_0 hp hc, oI, oX, wd_w_row, row_self, row_row, k0]; done) | (simp_all [sv_0 hp hc, oI, oX, wd_w_row, row_self, row_row, k0]; done)), by (first | with_reducible rfl | (simp [sv_0 hp hc, oI, oX, wd_w_row, row_self, row_row, k0]; done) | (simp_all [sv_0 hp hc, oI, oX, wd_w_row, row_self, row_row, k0]; done))⟩
  · skip
    have hl := (lk_some k0).2
    have hl5 : l < 5 := by omega
    refine aw_rV (As := [.int x]) (S := []) (v := some (.ref (ad 1 0 l))) (o2 := o) (ct_X7_knownLoop_some G k0) (mm_fit_of cbX7_knownLoop (by decide) (by decide)) wq460 cvX7_knownLoop wv7 rfl rfl rfl (Nat.le_of_ble_eq_true rfl) (by decide) (by decide) rfl dX7_setRisk_2 ?_
    refine aw_astore (L2 := [some (.ref (ad 7 0 0)), some (.int x), some (.int k), some (.int r), some (.ref (ad 1 0 l)), none]) (by decide) rfl rfl dX7_setRisk_5 ?_
    refine aw_iload_n (x := k) rfl dX7_setRisk_7 ?_
    refine aw_rS (As := [.int k]) (S := []) (v := some (.int (cs_span k))) (o2 := o) ct_X7_isSpan (mm_fit_of cbX7_isSpan (by decide) (by decide)) wq480 wq481 rfl rfl (Nat.le_of_ble_eq_true rfl) (by decide) (by decide) rfl dX7_setRisk_8 ?_
    refine aw_if_ne (tgt := 24) (by decide) dX7_setRisk_11 (fun z => absurd hb z) (fun _ => ?_)
    exact aw_throw th218_222 rfl (text := "no such span") (by decide) rfl dX7_setRisk_14 dX7_setRisk_17 dX7_setRisk_18 dX7_setRisk_20 dX7_setRisk_23 (by decide) (Nat.le_of_ble_eq_true rfl) (by decide) (by decide) ⟨by (first | with_reducible rfl | (simp [sv_0 hp hc, oI, oX, wd_w_row, row_self, row_row, k0]; done) | (simp_all [sv_0 hp hc, oI, oX, wd_w_row, row_self, row_row, k0]; done)), by (first | with_reducible rfl | (simp [sv_0 hp hc, oI, oX, wd_w_row, row_self, row_row, k0]; done) | (simp_all [sv_0 hp hc, oI, oX, wd_w_row, row_self, row_row, k0]; done))⟩
theorem ct_test {ad : Nat → Nat → Nat → Nat} {o : wd_S} {n m c : Nat} (V : vs o n m c) {x k : Int32} : CT ad MX7_test [.ref (ad 7 0 0), .int x, .int k] o (OT (cf_test o n x k)) := by
  obtain ⟨G, Z, hk, hc⟩ := id V
  obtain ⟨g1, g2, g3, g4, g5, g6⟩ := id G
  refine CT.pi (fun hp => ?_)
  refine CT.of (L := [some (.ref (ad 7 0 0)), some (.int x), some (.int k), none]) rfl rfl (by decide) (Nat.le_of_ble_eq_true rfl) rfl ?_
  refine aw_aload_n (x := ad 7 0 0) rfl dX7_test_0 ?_
  refine aw_iload_n (x := x) rfl dX7_test_1 ?_
  rcases k0 : lk n x with _ | l
  · skip
    exact aw_xV (As := [.int x]) (S := []) (ct_X7_knownLoop_none G k0) (mm_fit_of cbX7_knownLoop (by decide) (by decide)) wq460 cvX7_knownLoop wv7 rfl rfl rfl (Nat.le_of_ble_eq_true rfl) (by decide) (by decide) rfl dX7_test_2 ⟨by (first | with_reducible rfl | (simp [cf_test, sv_0 hp hc, oI, oX, wd_w_row, row_self, row_row, k0]; done) | (simp_all [cf_test, sv_0 hp hc, oI, oX, wd_w_row, row_self, row_row, k0]; done)), by (first | with_reducible rfl | (simp [cf_test, sv_0 hp hc, oI, oX, wd_w_row, row_self, row_row, k0]; done) | (simp_all [cf_test, sv_0 hp hc, oI, oX, wd_w_row, row_self, row_row, k0]; done))⟩
  · skip
    have hl := (lk_some k0).2
    have hl5 : l < 5 := by omega
    refine aw_rV (As := [.int x]) (S := []) (v := some (.ref (ad 1 0 l))) (o2 := o) (ct_X7_knownLoop_some G k0) (mm_fit_of cbX7_knownLoop (by decide) (by decide)) wq460 cvX7_knownLoop wv7 rfl rfl rfl (Nat.le_of_ble_eq_true rfl) (by decide) (by decide) rfl dX7_test_2 ?_
    refine aw_astore_n (L2 := [some (.ref (ad 7 0 0)), some (.int x), some (.int k), some (.ref (ad 1 0 l))]) (by decide) rfl rfl dX7_test_5 ?_
    refine aw_iload_n (x := k) rfl dX7_test_6 ?_
    refine aw_iconst (v := 1) (by decide) dX7_test_7 ?_
    refine aw_icmp_lt (tgt := 17) (by decide) dX7_test_8 (fun b1 => ?_) (fun b1 => ?_)
    · skip
      exact aw_throw th70_74 rfl (text := "span is out of range") (by decide) rfl dX7_test_17 dX7_test_20 dX7_test_21 dX7_test_23 dX7_test_26 (by decide) (Nat.le_of_ble_eq_true rfl) (by decide) (by decide) ⟨by (first | with_reducible rfl | (simp [cf_test, sv_0 hp hc, oI, oX, wd_w_row, row_self, row_row, k0, b1]; done) | (simp_all [cf_test, sv_0 hp hc, oI, oX, wd_w_row, row_self, row_row, k0, b1]; done)), by (first | with_reducible rfl | (simp [cf_test, sv_0 hp hc, oI, oX, wd_w_row, row_self, row_row, k0, b1]; done) | (simp_all [cf_test, sv_0 hp hc, oI, oX, wd_w_row, row_self, row_row, k0, b1]; done))⟩
    · skip
      refine aw_iload_n (x := k) rfl dX7_test_11 ?_
      refine aw_bipush (v := 12) (by decide) dX7_test_12 ?_
      refine aw_icmp_lt (tgt := 27) (by decide) dX7_test_14 (fun b2 => ?_) (fun b2 => ?_)
      · skip
        refine aw_aload_n (x := ad 1 0 l) rfl dX7_test_27 ?_
        refine aw_rV (As := []) (S := []) (v := some (.int (cs_flt (o.1 0) l))) (o2 := o) (ct_X3_hasFault (by decide) hl5) (mm_fit_of cbX3_hasFault (by decide) (by decide)) wq777 cvX3_hasFault (wv1 (by decide) hl5) rfl rfl rfl (Nat.le_of_ble_eq_true rfl) (by decide) (by decide) rfl dX7_test_28 ?_
        refine aw_if_ne (tgt := 44) (by decide) dX7_test_31 (fun b3 => ?_) (fun b3 => ?_)
        · skip
          refine aw_aload_n (x := ad 1 0 l) rfl dX7_test_44 ?_
          refine aw_geti (q := (0, 20 * l + 7)) (x := o.1 0 (20 * l + 7)) (wv1 (by decide) hl5) rfl rfl flX7_237 rfl (Or.inl rfl) dX7_test_45 ?_
          refine aw_iload_n (x := k) rfl dX7_test_48 ?_
          refine aw_icmp_gt (tgt := 56) (by decide) dX7_test_49 (fun b4 => ?_) (fun b4 => ?_)
          · skip
            refine aw_iconst (v := 0) (by decide) dX7_test_56 ?_
            exact aw_zret rfl (by decide) (by decide) (by decide) dX7_test_57 ⟨by (first | with_reducible rfl | (simp [cf_test, sv_0 hp hc, oI, oX, wd_w_row, row_self, row_row, k0, b1, b2, b3, b4]; done) | (simp_all [cf_test, sv_0 hp hc, oI, oX, wd_w_row, row_self, row_row, k0, b1, b2, b3, b4]; done)), by (first | with_reducible rfl | (simp [cf_test, sv_0 hp hc, oI, oX, wd_w_row, row_self, row_row, k0, b1, b2, b3, b4]; done) | (simp_all [cf_test, sv_0 hp hc, oI, oX, wd_w_row, row_self, row_row, k0, b1, b2, b3, b4]; done))⟩
          · skip
            refine aw_iconst (v := 1) (by decide) dX7_test_52 ?_
            refine aw_goto (tgt := 57) (by decide) dX7_test_53 ?_
            exact aw_zret rfl (by decide) (by decide) (by decide) dX7_test_57 ⟨by (first | with_reducible rfl | (simp [cf_test, sv_0 hp hc, oI, oX, wd_w_row, row_self, row_row, k0, b1, b2, b3, b4]; done) | (simp_all [cf_test, sv_0 hp hc, oI, oX, wd_w_row, row_self, row_row, k0, b1, b2, b3, b4]; done)), by (first | with_reducible rfl | (simp [cf_test, sv_0 hp hc, oI, oX, wd_w_row, row_self, row_row, k0, b1, b2, b3, b4]; done) | (simp_all [cf_test, sv_0 hp hc, oI, oX, wd_w_row, row_self, row_row, k0, b1, b2, b3, b4]; done))⟩
        · skip
          exact aw_throw th43_47 rfl (text := "the loop has no fault") (by decide) rfl dX7_test_34 dX7_test_37 dX7_test_38 dX7_test_40 dX7_test_43 (by decide) (Nat.le_of_ble_eq_true rfl) (by decide) (by decide) ⟨by (first | with_reducible rfl | (simp [cf_test, sv_0 hp hc, oI, oX, wd_w_row, row_self, row_row, k0, b1, b2, b3]; done) | (simp_all [cf_test, sv_0 hp hc, oI, oX, wd_w_row, row_self, row_row, k0, b1, b2, b3]; done)), by (first | with_reducible rfl | (simp [cf_test, sv_0 hp hc, oI, oX, wd_w_row, row_self, row_row, k0, b1, b2, b3]; done) | (simp_all [cf_test, sv_0 hp hc, oI, oX, wd_w_row, row_self, row_row, k0, b1, b2, b3]; done))⟩
      · skip
        exact aw_throw th70_74 rfl (text := "span is out of range") (by decide) rfl dX7_test_17 dX7_test_20 dX7_test_21 dX7_test_23 dX7_test_26 (by decide) (Nat.le_of_ble_eq_true rfl) (by decide) (by decide) ⟨by (first | with_reducible rfl | (simp [cf_test, sv_0 hp hc, oI, oX, wd_w_row, row_self, row_row, k0, b1, b2]; done) | (simp_all [cf_test, sv_0 hp hc, oI, oX, wd_w_row, row_self, row_row, k0, b1, b2]; done)), by (first | with_reducible rfl | (simp [cf_test, sv_0 hp hc, oI, oX, wd_w_row, row_self, row_row, k0, b1, b2]; done) | (simp_all [cf_test, sv_0 hp hc, oI, oX, wd_w_row, row_self, row_row, k0, b1, b2]; done))⟩
theorem ct_tcost_ok {ad : Nat → Nat → Nat → Nat} {o : wd_S} {n m c : Nat} (V : vs o n m c) {l a b : Nat} {x : Int32} (hx : lk n x = some l) (ha : 1 ≤ a) (hab : a ≤ b) (hb : b ≤ 12) : CT ad MX7_testCost [.ref (ad 7 0 0), .int x, .int (nI a), .int (nI b)] o (OT (oI ((cs_plan (cs_rk (o.1 0) l) a b (o.1 6, o.1 7)).1 (13 * a + b)) (wt2 o (cs_plan (cs_rk (o.1 0) l) a b (o.1 6, o.1 7))))) := by
  obtain ⟨G, Z, hk, hc⟩ := id V
  obtain ⟨g1, g2, g3, g4, g5, g6⟩ := id G
  refine CT.pi (fun hp => ?_)
  refine CT.of (L := [some (.ref (ad 7 0 0)), some (.int x), some (.int (nI a)), some (.int (nI b))]) rfl rfl (by decide) (Nat.le_of_ble_eq_true rfl) rfl ?_
  refine aw_aload_n (x := ad 7 0 0) rfl dX7_testCost_0 ?_
  refine aw_iload_n (x := x) rfl dX7_testCost_1 ?_
  refine aw_iload_n (x := (nI a)) rfl dX7_testCost_2 ?_
  refine aw_iload_n (x := (nI b)) rfl dX7_testCost_3 ?_
  refine aw_rV (As := [.int x, .int (nI a), .int (nI b)]) (S := []) (v := none) (o2 := (wt2 o (cs_plan (cs_rk (o.1 0) l) a b (o.1 6, o.1 7)))) (ct_X7_planTests_ok G hx ha hab hb) (mm_fit_of cbX7_planTests (by decide) (by decide)) wq835 cvX7_planTests wv7 rfl rfl rfl (Nat.le_of_ble_eq_true rfl) (by decide) (by decide) rfl dX7_testCost_4 ?_
  refine aw_aload_n (x := ad 7 0 0) rfl dX7_testCost_7 ?_
  refine aw_getr (q := (11, 0, 0)) wv7 rfl flX7_35 rfl rfl dX7_testCost_8 ?_
  refine aw_getr (q := (12, 0, 0)) wv11 rfl flX7_259 rfl rfl dX7_testCost_11 ?_
  refine aw_iload_n (x := (nI a)) rfl dX7_testCost_14 ?_
  refine aw_ald (x := a) (ty := 5) (q := (13, 0, a)) rfl (wv12 (by decide)) (wr12 (by omega)) (by show _ < 13; omega) rfl (by decide) (by decide) dX7_testCost_15 ?_
  refine aw_iload_n (x := (nI b)) rfl dX7_testCost_16 ?_
  refine aw_ild (x := b) (q := (6, 13 * a + b)) (y := (wt2 o (cs_plan (cs_rk (o.1 0) l) a b (o.1 6, o.1 7))).1 6 (13 * a + b)) rfl (wv13 (j := 0) (i := a) (by decide) (by omega)) (wi13 (by omega)) rfl (by show _ < 13; omega) rfl dX7_testCost_17 ?_
  exact aw_iret rfl (by decide) (by decide) dX7_testCost_18 ⟨by (first | with_reducible rfl | (simp [wt2_6, wt2_7, sv_0 hp hc, oI, oX, wd_w_row, row_self, row_row]; done) | (simp_all [wt2_6, wt2_7, sv_0 hp hc, oI, oX, wd_w_row, row_self, row_row]; done)), by (first | with_reducible rfl | (simp [wt2_6, wt2_7, sv_0 hp hc, oI, oX, wd_w_row, row_self, row_row]; done) | (simp_all [wt2_6, wt2_7, sv_0 hp hc, oI, oX, wd_w_row, row_self, row_row]; done))⟩
theorem ct_tcost_none {ad : Nat → Nat → Nat → Nat} {o : wd_S} {n m c : Nat} (V : vs o n m c) {x y z : Int32} (hx : lk n x = none) : CT ad MX7_testCost [.ref (ad 7 0 0), .int x, .int y, .int z] o (OT (oX eI o)) := by
  obtain ⟨G, Z, hk, hc⟩ := id V
  obtain ⟨g1, g2, g3, g4, g5, g6⟩ := id G
  refine CT.pi (fun hp => ?_)
  refine CT.of (L := [some (.ref (ad 7 0 0)), some (.int x), some (.int y), some (.int z)]) rfl rfl (by decide) (Nat.le_of_ble_eq_true rfl) rfl ?_
  refine aw_aload_n (x := ad 7 0 0) rfl dX7_testCost_0 ?_
  refine aw_iload_n (x := x) rfl dX7_testCost_1 ?_
  refine aw_iload_n (x := y) rfl dX7_testCost_2 ?_
  refine aw_iload_n (x := z) rfl dX7_testCost_3 ?_
  exact aw_xV (As := [.int x, .int y, .int z]) (S := []) (ct_X7_planTests_none G hx) (mm_fit_of cbX7_planTests (by decide) (by decide)) wq835 cvX7_planTests wv7 rfl rfl rfl (Nat.le_of_ble_eq_true rfl) (by decide) (by decide) rfl dX7_testCost_4 ⟨by (first | with_reducible rfl | (simp [sv_0 hp hc, oI, oX, wd_w_row, row_self, row_row]; done) | (simp_all [sv_0 hp hc, oI, oX, wd_w_row, row_self, row_row]; done)), by (first | with_reducible rfl | (simp [sv_0 hp hc, oI, oX, wd_w_row, row_self, row_row]; done) | (simp_all [sv_0 hp hc, oI, oX, wd_w_row, row_self, row_row]; done))⟩
theorem ct_tcost_bad {ad : Nat → Nat → Nat → Nat} {o : wd_S} {n m c : Nat} (V : vs o n m c) {l : Nat} {x y z : Int32} (hx : lk n x = some l) (hb : y < 1 ∨ y > z ∨ z > 12) : CT ad MX7_testCost [.ref (ad 7 0 0), .int x, .int y, .int z] o (OT (oX eA o)) := by
  obtain ⟨G, Z, hk, hc⟩ := id V
  obtain ⟨g1, g2, g3, g4, g5, g6⟩ := id G
  refine CT.pi (fun hp => ?_)
  refine CT.of (L := [some (.ref (ad 7 0 0)), some (.int x), some (.int y), some (.int z)]) rfl rfl (by decide) (Nat.le_of_ble_eq_true rfl) rfl ?_
  refine aw_aload_n (x := ad 7 0 0) rfl dX7_testCost_0 ?_
  refine aw_iload_n (x := x) rfl dX7_testCost_1 ?_
  refine aw_iload_n (x := y) rfl dX7_testCost_2 ?_
  refine aw_iload_n (x := z) rfl dX7_testCost_3 ?_
  exact aw_xV (As := [.int x, .int y, .int z]) (S := []) (ct_X7_planTests_bad G hx hb) (mm_fit_of cbX7_planTests (by decide) (by decide)) wq835 cvX7_planTests wv7 rfl rfl rfl (Nat.le_of_ble_eq_true rfl) (by decide) (by decide) rfl dX7_testCost_4 ⟨by (first | with_reducible rfl | (simp [sv_0 hp hc, oI, oX, wd_w_row, row_self, row_row]; done) | (simp_all [sv_0 hp hc, oI, oX, wd_w_row, row_self, row_row]; done)), by (first | with_reducible rfl | (simp [sv_0 hp hc, oI, oX, wd_w_row, row_self, row_row]; done) | (simp_all [sv_0 hp hc, oI, oX, wd_w_row, row_self, row_row]; done))⟩
theorem ct_tbtest_ok {ad : Nat → Nat → Nat → Nat} {o : wd_S} {n m c : Nat} (V : vs o n m c) {l a b : Nat} {x : Int32} (hx : lk n x = some l) (ha : 1 ≤ a) (hab : a ≤ b) (hb : b ≤ 12) : CT ad MX7_bestTest [.ref (ad 7 0 0), .int x, .int (nI a), .int (nI b)] o (OT (oI ((cs_plan (cs_rk (o.1 0) l) a b (o.1 6, o.1 7)).2 (13 * a + b)) (wt2 o (cs_plan (cs_rk (o.1 0) l) a b (o.1 6, o.1 7))))) := by
  obtain ⟨G, Z, hk, hc⟩ := id V
  obtain ⟨g1, g2, g3, g4, g5, g6⟩ := id G
  refine CT.pi (fun hp => ?_)
  refine CT.of (L := [some (.ref (ad 7 0 0)), some (.int x), some (.int (nI a)), some (.int (nI b))]) rfl rfl (by decide) (Nat.le_of_ble_eq_true rfl) rfl ?_
  refine aw_aload_n (x := ad 7 0 0) rfl dX7_bestTest_0 ?_
  refine aw_iload_n (x := x) rfl dX7_bestTest_1 ?_
  refine aw_iload_n (x := (nI a)) rfl dX7_bestTest_2 ?_
  refine aw_iload_n (x := (nI b)) rfl dX7_bestTest_3 ?_
  refine aw_rV (As := [.int x, .int (nI a), .int (nI b)]) (S := []) (v := none) (o2 := (wt2 o (cs_plan (cs_rk (o.1 0) l) a b (o.1 6, o.1 7)))) (ct_X7_planTests_ok G hx ha hab hb) (mm_fit_of cbX7_planTests (by decide) (by decide)) wq835 cvX7_planTests wv7 rfl rfl rfl (Nat.le_of_ble_eq_true rfl) (by decide) (by decide) rfl dX7_bestTest_4 ?_
  refine aw_aload_n (x := ad 7 0 0) rfl dX7_bestTest_7 ?_
  refine aw_getr (q := (11, 0, 0)) wv7 rfl flX7_35 rfl rfl dX7_bestTest_8 ?_
  refine aw_getr (q := (12, 0, 1)) wv11 rfl flX7_263 rfl rfl dX7_bestTest_11 ?_
  refine aw_iload_n (x := (nI a)) rfl dX7_bestTest_14 ?_
  refine aw_ald (x := a) (ty := 5) (q := (13, 1, a)) rfl (wv12 (by decide)) (wr12 (by omega)) (by show _ < 13; omega) rfl (by decide) (by decide) dX7_bestTest_15 ?_
  refine aw_iload_n (x := (nI b)) rfl dX7_bestTest_16 ?_
  refine aw_ild (x := b) (q := (7, 13 * a + b)) (y := (wt2 o (cs_plan (cs_rk (o.1 0) l) a b (o.1 6, o.1 7))).1 7 (13 * a + b)) rfl (wv13 (j := 1) (i := a) (by decide) (by omega)) (wi13 (by omega)) rfl (by show _ < 13; omega) rfl dX7_bestTest_17 ?_
  exact aw_iret rfl (by decide) (by decide) dX7_bestTest_18 ⟨by (first | with_reducible rfl | (simp [wt2_6, wt2_7, sv_0 hp hc, oI, oX, wd_w_row, row_self, row_row]; done) | (simp_all [wt2_6, wt2_7, sv_0 hp hc, oI, oX, wd_w_row, row_self, row_row]; done)), by (first | with_reducible rfl | (simp [wt2_6, wt2_7, sv_0 hp hc, oI, oX, wd_w_row, row_self, row_row]; done) | (simp_all [wt2_6, wt2_7, sv_0 hp hc, oI, oX, wd_w_row, row_self, row_row]; done))⟩
theorem ct_tbtest_none {ad : Nat → Nat → Nat → Nat} {o : wd_S} {n m c : Nat} (V : vs o n m c) {x y z : Int32} (hx : lk n x = none) : CT ad MX7_bestTest [.ref (ad 7 0 0), .int x, .int y, .int z] o (OT (oX eI o)) := by
  obtain ⟨G, Z, hk, hc⟩ := id V
  obtain ⟨g1, g2, g3, g4, g5, g6⟩ := id G
  refine CT.pi (fun hp => ?_)
  refine CT.of (L := [some (.ref (ad 7 0 0)), some (.int x), some (.int y), some (.int z)]) rfl rfl (by decide) (Nat.le_of_ble_eq_true rfl) rfl ?_
  refine aw_aload_n (x := ad 7 0 0) rfl dX7_bestTest_0 ?_
  refine aw_iload_n (x := x) rfl dX7_bestTest_1 ?_
  refine aw_iload_n (x := y) rfl dX7_bestTest_2 ?_
  refine aw_iload_n (x := z) rfl dX7_bestTest_3 ?_
  exact aw_xV (As := [.int x, .int y, .int z]) (S := []) (ct_X7_planTests_none G hx) (mm_fit_of cbX7_planTests (by decide) (by decide)) wq835 cvX7_planTests wv7 rfl rfl rfl (Nat.le_of_ble_eq_true rfl) (by decide) (by decide) rfl dX7_bestTest_4 ⟨by (first | with_reducible rfl | (simp [sv_0 hp hc, oI, oX, wd_w_row, row_self, row_row]; done) | (simp_all [sv_0 hp hc, oI, oX, wd_w_row, row_self, row_row]; done)), by (first | with_reducible rfl | (simp [sv_0 hp hc, oI, oX, wd_w_row, row_self, row_row]; done) | (simp_all [sv_0 hp hc, oI, oX, wd_w_row, row_self, row_row]; done))⟩
theorem ct_tbtest_bad {ad : Nat → Nat → Nat → Nat} {o : wd_S} {n m c : Nat} (V : vs o n m c) {l : Nat} {x y z : Int32} (hx : lk n x = some l) (hb : y < 1 ∨ y > z ∨ z > 12) : CT ad MX7_bestTest [.ref (ad 7 0 0), .int x, .int y, .int z] o (OT (oX eA o)) := by
  obtain ⟨G, Z, hk, hc⟩ := id V
  obtain ⟨g1, g2, g3, g4, g5, g6⟩ := id G
  refine CT.pi (fun hp => ?_)
  refine CT.of (L := [some (.ref (ad 7 0 0)), some (.int x), some (.int y), some (.int z)]) rfl rfl (by decide) (Nat.le_of_ble_eq_true rfl) rfl ?_
  refine aw_aload_n (x := ad 7 0 0) rfl dX7_bestTest_0 ?_
  refine aw_iload_n (x := x) rfl dX7_bestTest_1 ?_
  refine aw_iload_n (x := y) rfl dX7_bestTest_2 ?_
  refine aw_iload_n (x := z) rfl dX7_bestTest_3 ?_
  exact aw_xV (As := [.int x, .int y, .int z]) (S := []) (ct_X7_planTests_bad G hx hb) (mm_fit_of cbX7_planTests (by decide) (by decide)) wq835 cvX7_planTests wv7 rfl rfl rfl (Nat.le_of_ble_eq_true rfl) (by decide) (by decide) rfl dX7_bestTest_4 ⟨by (first | with_reducible rfl | (simp [sv_0 hp hc, oI, oX, wd_w_row, row_self, row_row]; done) | (simp_all [sv_0 hp hc, oI, oX, wd_w_row, row_self, row_row]; done)), by (first | with_reducible rfl | (simp [sv_0 hp hc, oI, oX, wd_w_row, row_self, row_row]; done) | (simp_all [sv_0 hp hc, oI, oX, wd_w_row, row_self, row_row]; done))⟩
theorem ct_need {ad : Nat → Nat → Nat → Nat} {o : wd_S} {n m c : Nat} (V : vs o n m c) {x : Int32} : CT ad MX7_testsNeeded [.ref (ad 7 0 0), .int x] o (OT (cf_need o n x)) := by
  obtain ⟨G, Z, hk, hc⟩ := id V
  obtain ⟨g1, g2, g3, g4, g5, g6⟩ := id G
  refine CT.pi (fun hp => ?_)
  refine CT.of (L := [some (.ref (ad 7 0 0)), some (.int x), none]) rfl rfl (by decide) (Nat.le_of_ble_eq_true rfl) rfl ?_
  refine aw_aload_n (x := ad 7 0 0) rfl dX7_testsNeeded_0 ?_
  refine aw_iload_n (x := x) rfl dX7_testsNeeded_1 ?_
  rcases k0 : lk n x with _ | l
  · skip
    exact aw_xV (As := [.int x]) (S := []) (ct_X7_knownLoop_none G k0) (mm_fit_of cbX7_knownLoop (by decide) (by decide)) wq460 cvX7_knownLoop wv7 rfl rfl rfl (Nat.le_of_ble_eq_true rfl) (by decide) (by decide) rfl dX7_testsNeeded_2 ⟨by (first | with_reducible rfl | (simp [cf_need, wt2_7, wt2_ne _ _ (show (0 : Nat) ≠ 6 by decide) (show (0 : Nat) ≠ 7 by decide), sv_0 hp hc, oI, oX, wd_w_row, row_self, row_row, k0]; done) | (simp_all [cf_need, wt2_7, wt2_ne _ _ (show (0 : Nat) ≠ 6 by decide) (show (0 : Nat) ≠ 7 by decide), sv_0 hp hc, oI, oX, wd_w_row, row_self, row_row, k0]; done)), by (first | with_reducible rfl | (simp [cf_need, wt2_7, wt2_ne _ _ (show (0 : Nat) ≠ 6 by decide) (show (0 : Nat) ≠ 7 by decide), sv_0 hp hc, oI, oX, wd_w_row, row_self, row_row, k0]; done) | (simp_all [cf_need, wt2_7, wt2_ne _ _ (show (0 : Nat) ≠ 6 by decide) (show (0 : Nat) ≠ 7 by decide), sv_0 hp hc, oI, oX, wd_w_row, row_self, row_row, k0]; done))⟩
  · skip
    have hl := (lk_some k0).2
    have hl5 : l < 5 := by omega
    refine aw_rV (As := [.int x]) (S := []) (v := some (.ref (ad 1 0 l))) (o2 := o) (ct_X7_knownLoop_some G k0) (mm_fit_of cbX7_knownLoop (by decide) (by decide)) wq460 cvX7_knownLoop wv7 rfl rfl rfl (Nat.le_of_ble_eq_true rfl) (by decide) (by decide) rfl dX7_testsNeeded_2 ?_
    refine aw_astore_n (L2 := [some (.ref (ad 7 0 0)), some (.int x), some (.ref (ad 1 0 l))]) (by decide) rfl rfl dX7_testsNeeded_5 ?_
    refine aw_aload_n (x := ad 1 0 l) rfl dX7_testsNeeded_6 ?_
    refine aw_rV (As := []) (S := []) (v := some (.int (cs_flt (o.1 0) l))) (o2 := o) (ct_X3_hasFault (by decide) hl5) (mm_fit_of cbX3_hasFault (by decide) (by decide)) wq777 cvX3_hasFault (wv1 (by decide) hl5) rfl rfl rfl (Nat.le_of_ble_eq_true rfl) (by decide) (by decide) rfl dX7_testsNeeded_7 ?_
    refine aw_if_ne (tgt := 23) (by decide) dX7_testsNeeded_10 (fun b1 => ?_) (fun b1 => ?_)
    · skip
      refine aw_aload_n (x := ad 7 0 0) rfl dX7_testsNeeded_23 ?_
      refine aw_getr (q := (11, 0, 0)) wv7 rfl flX7_35 rfl rfl dX7_testsNeeded_24 ?_
      refine aw_aload_n (x := ad 1 0 l) rfl dX7_testsNeeded_27 ?_
      refine aw_getr (q := (2, 0, l)) (wv1 (by decide) hl5) rfl flX7_250 rfl rfl dX7_testsNeeded_28 ?_
      refine aw_iconst (v := 1) (by decide) dX7_testsNeeded_31 ?_
      refine aw_bipush (v := 12) (by decide) dX7_testsNeeded_32 ?_
      refine aw_rV (As := [.ref (ad 2 0 l), .int 1, .int 12]) (S := []) (v := none) (o2 := (wt2 o (cs_plan (cs_rk (o.1 0) l) 1 12 (o.1 6, o.1 7)))) (ct_X4_plan hl5 (a := 1) (b := 12) (by decide) (by decide) (by decide)) (mm_fit_of cbX4_plan (by decide) (by decide)) wq840 cvX4_plan wv11 rfl rfl rfl (Nat.le_of_ble_eq_true rfl) (by decide) (by decide) rfl dX7_testsNeeded_34 ?_
      refine aw_aload_n (x := ad 7 0 0) rfl dX7_testsNeeded_37 ?_
      refine aw_getr (q := (11, 0, 0)) wv7 rfl flX7_35 rfl rfl dX7_testsNeeded_38 ?_
      refine aw_aload_n (x := ad 1 0 l) rfl dX7_testsNeeded_41 ?_
      refine aw_geti (q := (0, 20 * l + 7)) (x := (wt2 o (cs_plan (cs_rk (o.1 0) l) 1 12 (o.1 6, o.1 7))).1 0 (20 * l + 7)) (wv1 (by decide) hl5) rfl rfl flX7_237 rfl (Or.inl rfl) dX7_testsNeeded_42 ?_
      refine aw_rV (As := [.int ((wt2 o (cs_plan (cs_rk (o.1 0) l) 1 12 (o.1 6, o.1 7))).1 0 (20 * l + 7))]) (S := []) (v := some (.int (nI (cs_find ((wt2 o (cs_plan (cs_rk (o.1 0) l) 1 12 (o.1 6, o.1 7))).1 7) ((wt2 o (cs_plan (cs_rk (o.1 0) l) 1 12 (o.1 6, o.1 7))).1 0 (20 * l + 7)) 12 0 1 12)))) (o2 := (wt2 o (cs_plan (cs_rk (o.1 0) l) 1 12 (o.1 6, o.1 7)))) ct_X4_find (mm_fit_of cbX4_countUntilFound (by decide) (by decide)) wq862 cvX4_countUntilFound wv11 rfl rfl rfl (Nat.le_of_ble_eq_true rfl) (by decide) (by decide) rfl dX7_testsNeeded_45 ?_
      exact aw_iret rfl (by decide) (by decide) dX7_testsNeeded_48 ⟨by (first | with_reducible rfl | (simp [cf_need, wt2_7, wt2_ne _ _ (show (0 : Nat) ≠ 6 by decide) (show (0 : Nat) ≠ 7 by decide), sv_0 hp hc, oI, oX, wd_w_row, row_self, row_row, k0, b1]; done) | (simp_all [cf_need, wt2_7, wt2_ne _ _ (show (0 : Nat) ≠ 6 by decide) (show (0 : Nat) ≠ 7 by decide), sv_0 hp hc, oI, oX, wd_w_row, row_self, row_row, k0, b1]; done)), by (first | with_reducible rfl | (simp [cf_need, wt2_7, wt2_ne _ _ (show (0 : Nat) ≠ 6 by decide) (show (0 : Nat) ≠ 7 by decide), sv_0 hp hc, oI, oX, wd_w_row, row_self, row_row, k0, b1]; done) | (simp_all [cf_need, wt2_7, wt2_ne _ _ (show (0 : Nat) ≠ 6 by decide) (show (0 : Nat) ≠ 7 by decide), sv_0 hp hc, oI, oX, wd_w_row, row_self, row_row, k0, b1]; done))⟩
    · skip
      exact aw_throw th43_47 rfl (text := "the loop has no fault") (by decide) rfl dX7_testsNeeded_13 dX7_testsNeeded_16 dX7_testsNeeded_17 dX7_testsNeeded_19 dX7_testsNeeded_22 (by decide) (Nat.le_of_ble_eq_true rfl) (by decide) (by decide) ⟨by (first | with_reducible rfl | (simp [cf_need, wt2_7, wt2_ne _ _ (show (0 : Nat) ≠ 6 by decide) (show (0 : Nat) ≠ 7 by decide), sv_0 hp hc, oI, oX, wd_w_row, row_self, row_row, k0, b1]; done) | (simp_all [cf_need, wt2_7, wt2_ne _ _ (show (0 : Nat) ≠ 6 by decide) (show (0 : Nat) ≠ 7 by decide), sv_0 hp hc, oI, oX, wd_w_row, row_self, row_row, k0, b1]; done)), by (first | with_reducible rfl | (simp [cf_need, wt2_7, wt2_ne _ _ (show (0 : Nat) ≠ 6 by decide) (show (0 : Nat) ≠ 7 by decide), sv_0 hp hc, oI, oX, wd_w_row, row_self, row_row, k0, b1]; done) | (simp_all [cf_need, wt2_7, wt2_ne _ _ (show (0 : Nat) ≠ 6 by decide) (show (0 : Nat) ≠ 7 by decide), sv_0 hp hc, oI, oX, wd_w_row, row_self, row_row, k0, b1]; done))⟩
theorem ct_restore' {ad : Nat → Nat → Nat → Nat} {o : wd_S} {c n m : Nat} (G : cg (o.1 (o.2.1 c)) n m) (hk : o.1 5 0 = nI (c + 1)) (hc : c < 4) (Z : bz (o.1 (o.2.1 c))) : CT ad MX2_restore [.ref (ad 9 0 0), .ref (ad 0 0 0)] o (RT none (cs_restore o c)) := CT.pi (fun hp => ct_X2_restore hp G hk hc Z)
theorem ct_undo_ok {ad : Nat → Nat → Nat → Nat} {o : wd_S} {c n m : Nat} (G : cg (o.1 (o.2.1 c)) n m) (hk : o.1 5 0 = nI (c + 1)) (hc : c < 4) (Z : bz (o.1 (o.2.1 c))) : CT ad MX7_undo [.ref (ad 7 0 0)] o (OT (oI (nI c) (cs_restore o c))) := by
  refine CT.of (L := [some (.ref (ad 7 0 0))]) rfl rfl (by decide) (Nat.le_of_ble_eq_true rfl) rfl ?_
  refine aw_aload_n (x := ad 7 0 0) rfl dX7_undo_0 ?_
  refine aw_getr (q := (9, 0, 0)) wv7 rfl flX7_28 rfl rfl dX7_undo_1 ?_
  refine aw_geti (q := (5, 0)) (x := nI (c + 1)) wv9 rfl hk flX7_273 rfl (Or.inl rfl) dX7_undo_4 ?_
  refine aw_if_ne (tgt := 21) (by decide) dX7_undo_7 (fun _ => ?_) (fun z => absurd z (nI_ne0 (by omega) (by omega)))
  refine aw_aload_n (x := ad 7 0 0) rfl dX7_undo_21 ?_
  refine aw_getr (q := (9, 0, 0)) wv7 rfl flX7_28 rfl rfl dX7_undo_22 ?_
  refine aw_aload_n (x := ad 7 0 0) rfl dX7_undo_25 ?_
  refine aw_getr (q := (0, 0, 0)) wv7 rfl flX7_10 rfl rfl dX7_undo_26 ?_
  refine aw_rV (As := [.ref (ad 0 0 0)]) (S := []) (v := none) (o2 := (cs_restore o c)) (ct_restore' G hk hc Z) (mm_fit_of cbX2_restore (by decide) (by decide)) wq874 cvX2_restore wv9 rfl rfl rfl (Nat.le_of_ble_eq_true rfl) (by decide) (by decide) rfl dX7_undo_29 ?_
  refine aw_aload_n (x := ad 7 0 0) rfl dX7_undo_32 ?_
  refine aw_getr (q := (9, 0, 0)) wv7 rfl flX7_28 rfl rfl dX7_undo_33 ?_
  refine aw_geti (q := (5, 0)) (x := nI c) wv9 rfl rfl flX7_273 rfl (Or.inl rfl) dX7_undo_36 ?_
  exact aw_iret rfl (by decide) (by decide) dX7_undo_39 ⟨by (first | with_reducible rfl | (simp [oI, oX, wd_w_row, row_self, row_row]; done) | (simp_all [oI, oX, wd_w_row, row_self, row_row]; done)), by (first | with_reducible rfl | (simp [oI, oX, wd_w_row, row_self, row_row]; done) | (simp_all [oI, oX, wd_w_row, row_self, row_row]; done))⟩
theorem ct_undo_x {ad : Nat → Nat → Nat → Nat} {o : wd_S} (hk : o.1 5 0 = 0) : CT ad MX7_undo [.ref (ad 7 0 0)] o (OT (oX eS o)) := by
  refine CT.of (L := [some (.ref (ad 7 0 0))]) rfl rfl (by decide) (Nat.le_of_ble_eq_true rfl) rfl ?_
  refine aw_aload_n (x := ad 7 0 0) rfl dX7_undo_0 ?_
  refine aw_getr (q := (9, 0, 0)) wv7 rfl flX7_28 rfl rfl dX7_undo_1 ?_
  refine aw_geti (q := (5, 0)) (x := 0) wv9 rfl hk flX7_273 rfl (Or.inl rfl) dX7_undo_4 ?_
  refine aw_if_ne (tgt := 21) (by decide) dX7_undo_7 (fun z => absurd z (by decide)) (fun _ => ?_)
  exact aw_throwW th43_47 rfl (text := "no state is saved") (by decide) rfl dX7_undo_10 dX7_undo_13 dX7_undo_14 dX7_undo_17 dX7_undo_20 (by decide) (Nat.le_of_ble_eq_true rfl) (by decide) (by decide) ⟨by (first | with_reducible rfl | (simp [oI, oX, wd_w_row, row_self, row_row]; done) | (simp_all [oI, oX, wd_w_row, row_self, row_row]; done)), by (first | with_reducible rfl | (simp [oI, oX, wd_w_row, row_self, row_row]; done) | (simp_all [oI, oX, wd_w_row, row_self, row_row]; done))⟩
def cs_dgl (B : Nat → Int32) (n m : Nat) : Nat → Nat → Int64 → Int64
  | 0, _, h => h
  | k + 1, i, h => cs_dgl B n m k (i + 1) (if i < n then mxs (cs_mixl B m i) h else h)
def cs_dgs (B : Nat → Int32) (m : Nat) : Nat → Nat → Int64 → Int64
  | 0, _, h => h
  | k + 1, i, h => cs_dgs B m k (i + 1) (if i < m then mxs (cs_mixs B (hm B i) i) h else h)
def cs_dg1 (B : Nat → Int32) (c : Nat) (h : Int64) : Int64 := mxs [B 231, B 232, B 233, B 234, B 235, B 236, nI c] (mx h (B 230))
def cs_dg2 (B : Nat → Int32) (m c : Nat) (h : Int64) : Int64 := cs_dg1 B c (cs_dgs B m 16 0 (mx h (nI m)))
def cs_digest (B : Nat → Int32) (n m c : Nat) : Int64 := cs_dg2 B m c (cs_dgl B n m 5 0 (mx 1857 (nI n)))
theorem tl_digest {ad : Nat → Nat → Nat → Nat} {o : wd_S} {n m c : Nat} (V : vs o n m c) {h : Int64} : AW ad MX7_digest 101 [some (.ref (ad 7 0 0)), some (.long h), none, none, none] [] o 0 0 (RT (some (.long (cs_dg1 (o.1 0) c h))) o) := by
  obtain ⟨G, Z, hk, hc⟩ := id V
  obtain ⟨g1, g2, g3, g4, g5, g6⟩ := id G
  refine aw_lload_n (x := h) rfl dX7_digest_101 ?_
  refine aw_aload_n (x := ad 7 0 0) rfl dX7_digest_102 ?_
  refine aw_getr (q := (0, 0, 0)) wv7 rfl flX7_10 rfl rfl dX7_digest_103 ?_
  refine aw_geti (q := (0, 230)) (x := o.1 0 230) (wv0 (by decide)) rfl rfl flX7_177 rfl (Or.inl rfl) dX7_digest_106 ?_
  refine aw_i2l dX7_digest_109 ?_
  refine aw_rS (As := [.long h, .long ((o.1 0 230 : Int32).toInt64)]) (S := []) (v := some (.long (mx h (o.1 0 230)))) (o2 := o) ct_X7_mix (mm_fit_of cbX7_mix (by decide) (by decide)) wq255 wq256 rfl rfl (Nat.le_of_ble_eq_true rfl) (by decide) (by decide) rfl dX7_digest_110 ?_
  refine aw_lstore_n (L2 := [some (.ref (ad 7 0 0)), some (.long (mx h (o.1 0 230))), none, none, none]) (by decide) rfl rfl dX7_digest_113 ?_
  refine aw_iconst (v := 0) (by decide) dX7_digest_114 ?_
  refine aw_istore_n (L2 := [some (.ref (ad 7 0 0)), some (.long (mx h (o.1 0 230))), none, some (.int 0), none]) (by decide) rfl rfl dX7_digest_115 ?_
  refine aw_iload_n (x := 0) rfl dX7_digest_116 ?_
  refine aw_bipush (v := 6) (by decide) dX7_digest_117 ?_
  refine aw_icmp_ge (tgt := 143) (by decide) dX7_digest_119 (fun z => absurd z (by decide)) (fun _ => ?_)
  refine aw_lload_n (x := (mx h (o.1 0 230))) rfl dX7_digest_122 ?_
  refine aw_aload_n (x := ad 7 0 0) rfl dX7_digest_123 ?_
  refine aw_getr (q := (0, 0, 0)) wv7 rfl flX7_10 rfl rfl dX7_digest_124 ?_
  refine aw_getr (q := (4, 0, 0)) (wv0 (by decide)) rfl flX7_187 rfl rfl dX7_digest_127 ?_
  refine aw_iload_n (x := 0) rfl dX7_digest_130 ?_
  refine aw_ild (x := 0) (q := (0, 231)) (y := o.1 0 231) (by decide) (wv4 (j := 0) (by decide)) rfl rfl (Nat.le_of_ble_eq_true rfl) rfl dX7_digest_131 ?_
  refine aw_i2l dX7_digest_132 ?_
  refine aw_rS (As := [.long (mx h (o.1 0 230)), .long ((o.1 0 231 : Int32).toInt64)]) (S := []) (v := some (.long (mx (mx h (o.1 0 230)) (o.1 0 231)))) (o2 := o) ct_X7_mix (mm_fit_of cbX7_mix (by decide) (by decide)) wq255 wq256 rfl rfl (Nat.le_of_ble_eq_true rfl) (by decide) (by decide) rfl dX7_digest_133 ?_
  refine aw_lstore_n (L2 := [some (.ref (ad 7 0 0)), some (.long (mx (mx h (o.1 0 230)) (o.1 0 231))), none, some (.int 0), none]) (by decide) rfl rfl dX7_digest_136 ?_
  refine aw_iinc (n := 1) (x := 0) (v := 1) (L2 := [some (.ref (ad 7 0 0)), some (.long (mx (mx h (o.1 0 230)) (o.1 0 231))), none, some (.int 1), none]) rfl (by decide) (by decide) rfl rfl dX7_digest_137 ?_
  refine aw_goto (tgt := 116) (by decide) dX7_digest_140 ?_
  refine aw_iload_n (x := 1) rfl dX7_digest_116 ?_
  refine aw_bipush (v := 6) (by decide) dX7_digest_117 ?_
  refine aw_icmp_ge (tgt := 143) (by decide) dX7_digest_119 (fun z => absurd z (by decide)) (fun _ => ?_)
  refine aw_lload_n (x := (mx (mx h (o.1 0 230)) (o.1 0 231))) rfl dX7_digest_122 ?_
  refine aw_aload_n (x := ad 7 0 0) rfl dX7_digest_123 ?_
  refine aw_getr (q := (0, 0, 0)) wv7 rfl flX7_10 rfl rfl dX7_digest_124 ?_
  refine aw_getr (q := (4, 0, 0)) (wv0 (by decide)) rfl flX7_187 rfl rfl dX7_digest_127 ?_
  refine aw_iload_n (x := 1) rfl dX7_digest_130 ?_
  refine aw_ild (x := 1) (q := (0, 232)) (y := o.1 0 232) (by decide) (wv4 (j := 0) (by decide)) rfl rfl (Nat.le_of_ble_eq_true rfl) rfl dX7_digest_131 ?_
  refine aw_i2l dX7_digest_132 ?_
  refine aw_rS (As := [.long (mx (mx h (o.1 0 230)) (o.1 0 231)), .long ((o.1 0 232 : Int32).toInt64)]) (S := []) (v := some (.long (mx (mx (mx h (o.1 0 230)) (o.1 0 231)) (o.1 0 232)))) (o2 := o) ct_X7_mix (mm_fit_of cbX7_mix (by decide) (by decide)) wq255 wq256 rfl rfl (Nat.le_of_ble_eq_true rfl) (by decide) (by decide) rfl dX7_digest_133 ?_
  refine aw_lstore_n (L2 := [some (.ref (ad 7 0 0)), some (.long (mx (mx (mx h (o.1 0 230)) (o.1 0 231)) (o.1 0 232))), none, some (.int 1), none]) (by decide) rfl rfl dX7_digest_136 ?_
  refine aw_iinc (n := 1) (x := 1) (v := 2) (L2 := [some (.ref (ad 7 0 0)), some (.long (mx (mx (mx h (o.1 0 230)) (o.1 0 231)) (o.1 0 232))), none, some (.int 2), none]) rfl (by decide) (by decide) rfl rfl dX7_digest_137 ?_
  refine aw_goto (tgt := 116) (by decide) dX7_digest_140 ?_
  refine aw_iload_n (x := 2) rfl dX7_digest_116 ?_
  refine aw_bipush (v := 6) (by decide) dX7_digest_117 ?_
  refine aw_icmp_ge (tgt := 143) (by decide) dX7_digest_119 (fun z => absurd z (by decide)) (fun _ => ?_)
  refine aw_lload_n (x := (mx (mx (mx h (o.1 0 230)) (o.1 0 231)) (o.1 0 232))) rfl dX7_digest_122 ?_
  refine aw_aload_n (x := ad 7 0 0) rfl dX7_digest_123 ?_
  refine aw_getr (q := (0, 0, 0)) wv7 rfl flX7_10 rfl rfl dX7_digest_124 ?_
  refine aw_getr (q := (4, 0, 0)) (wv0 (by decide)) rfl flX7_187 rfl rfl dX7_digest_127 ?_
  refine aw_iload_n (x := 2) rfl dX7_digest_130 ?_
  refine aw_ild (x := 2) (q := (0, 233)) (y := o.1 0 233) (by decide) (wv4 (j := 0) (by decide)) rfl rfl (Nat.le_of_ble_eq_true rfl) rfl dX7_digest_131 ?_
  refine aw_i2l dX7_digest_132 ?_
  refine aw_rS (As := [.long (mx (mx (mx h (o.1 0 230)) (o.1 0 231)) (o.1 0 232)), .long ((o.1 0 233 : Int32).toInt64)]) (S := []) (v := some (.long (mx (mx (mx (mx h (o.1 0 230)) (o.1 0 231)) (o.1 0 232)) (o.1 0 233)))) (o2 := o) ct_X7_mix (mm_fit_of cbX7_mix (by decide) (by decide)) wq255 wq256 rfl rfl (Nat.le_of_ble_eq_true rfl) (by decide) (by decide) rfl dX7_digest_133 ?_
  refine aw_lstore_n (L2 := [some (.ref (ad 7 0 0)), some (.long (mx (mx (mx (mx h (o.1 0 230)) (o.1 0 231)) (o.1 0 232)) (o.1 0 233))), none, some (.int 2), none]) (by decide) rfl rfl dX7_digest_136 ?_
  refine aw_iinc (n := 1) (x := 2) (v := 3) (L2 := [some (.ref (ad 7 0 0)), some (.long (mx (mx (mx (mx h (o.1 0 230)) (o.1 0 231)) (o.1 0 232)) (o.1 0 233))), none, some (.int 3), none]) rfl (by decide) (by decide) rfl rfl dX7_digest_137 ?_
  refine aw_goto (tgt := 116) (by decide) dX7_digest_140 ?_
  refine aw_iload_n (x := 3) rfl dX7_digest_116 ?_
  refine aw_bipush (v := 6) (by decide) dX7_digest_117 ?_
  refine aw_icmp_ge (tgt := 143) (by decide) dX7_digest_119 (fun z => absurd z (by decide)) (fun _ => ?_)
  refine aw_lload_n (x := (mx (mx (mx (mx h (o.1 0 230)) (o.1 0 231)) (o.1 0 232)) (o.1 0 233))) rfl dX7_digest_122 ?_
  refine aw_aload_n (x := ad 7 0 0) rfl dX7_digest_123 ?_
  refine aw_getr (q := (0, 0, 0)) wv7 rfl flX7_10 rfl rfl dX7_digest_124 ?_
  refine aw_getr (q := (4, 0, 0)) (wv0 (by decide)) rfl flX7_187 rfl rfl dX7_digest_127 ?_
  refine aw_iload_n (x := 3) rfl dX7_digest_130 ?_
  refine aw_ild (x := 3) (q := (0, 234)) (y := o.1 0 234) (by decide) (wv4 (j := 0) (by decide)) rfl rfl (Nat.le_of_ble_eq_true rfl) rfl dX7_digest_131 ?_
  refine aw_i2l dX7_digest_132 ?_
  refine aw_rS (As := [.long (mx (mx (mx (mx h (o.1 0 230)) (o.1 0 231)) (o.1 0 232)) (o.1 0 233)), .long ((o.1 0 234 : Int32).toInt64)]) (S := []) (v := some (.long (mx (mx (mx (mx (mx h (o.1 0 230)) (o.1 0 231)) (o.1 0 232)) (o.1 0 233)) (o.1 0 234)))) (o2 := o) ct_X7_mix (mm_fit_of cbX7_mix (by decide) (by decide)) wq255 wq256 rfl rfl (Nat.le_of_ble_eq_true rfl) (by decide) (by decide) rfl dX7_digest_133 ?_
  refine aw_lstore_n (L2 := [some (.ref (ad 7 0 0)), some (.long (mx (mx (mx (mx (mx h (o.1 0 230)) (o.1 0 231)) (o.1 0 232)) (o.1 0 233)) (o.1 0 234))), none, some (.int 3), none]) (by decide) rfl rfl dX7_digest_136 ?_
  refine aw_iinc (n := 1) (x := 3) (v := 4) (L2 := [some (.ref (ad 7 0 0)), some (.long (mx (mx (mx (mx (mx h (o.1 0 230)) (o.1 0 231)) (o.1 0 232)) (o.1 0 233)) (o.1 0 234))), none, some (.int 4), none]) rfl (by decide) (by decide) rfl rfl dX7_digest_137 ?_
  refine aw_goto (tgt := 116) (by decide) dX7_digest_140 ?_
  refine aw_iload_n (x := 4) rfl dX7_digest_116 ?_
  refine aw_bipush (v := 6) (by decide) dX7_digest_117 ?_
  refine aw_icmp_ge (tgt := 143) (by decide) dX7_digest_119 (fun z => absurd z (by decide)) (fun _ => ?_)
  refine aw_lload_n (x := (mx (mx (mx (mx (mx h (o.1 0 230)) (o.1 0 231)) (o.1 0 232)) (o.1 0 233)) (o.1 0 234))) rfl dX7_digest_122 ?_
  refine aw_aload_n (x := ad 7 0 0) rfl dX7_digest_123 ?_
  refine aw_getr (q := (0, 0, 0)) wv7 rfl flX7_10 rfl rfl dX7_digest_124 ?_
  refine aw_getr (q := (4, 0, 0)) (wv0 (by decide)) rfl flX7_187 rfl rfl dX7_digest_127 ?_
  refine aw_iload_n (x := 4) rfl dX7_digest_130 ?_
  refine aw_ild (x := 4) (q := (0, 235)) (y := o.1 0 235) (by decide) (wv4 (j := 0) (by decide)) rfl rfl (Nat.le_of_ble_eq_true rfl) rfl dX7_digest_131 ?_
  refine aw_i2l dX7_digest_132 ?_
  refine aw_rS (As := [.long (mx (mx (mx (mx (mx h (o.1 0 230)) (o.1 0 231)) (o.1 0 232)) (o.1 0 233)) (o.1 0 234)), .long ((o.1 0 235 : Int32).toInt64)]) (S := []) (v := some (.long (mx (mx (mx (mx (mx (mx h (o.1 0 230)) (o.1 0 231)) (o.1 0 232)) (o.1 0 233)) (o.1 0 234)) (o.1 0 235)))) (o2 := o) ct_X7_mix (mm_fit_of cbX7_mix (by decide) (by decide)) wq255 wq256 rfl rfl (Nat.le_of_ble_eq_true rfl) (by decide) (by decide) rfl dX7_digest_133 ?_
  refine aw_lstore_n (L2 := [some (.ref (ad 7 0 0)), some (.long (mx (mx (mx (mx (mx (mx h (o.1 0 230)) (o.1 0 231)) (o.1 0 232)) (o.1 0 233)) (o.1 0 234)) (o.1 0 235))), none, some (.int 4), none]) (by decide) rfl rfl dX7_digest_136 ?_
  refine aw_iinc (n := 1) (x := 4) (v := 5) (L2 := [some (.ref (ad 7 0 0)), some (.long (mx (mx (mx (mx (mx (mx h (o.1 0 230)) (o.1 0 231)) (o.1 0 232)) (o.1 0 233)) (o.1 0 234)) (o.1 0 235))), none, some (.int 5), none]) rfl (by decide) (by decide) rfl rfl dX7_digest_137 ?_
  refine aw_goto (tgt := 116) (by decide) dX7_digest_140 ?_
  refine aw_iload_n (x := 5) rfl dX7_digest_116 ?_
  refine aw_bipush (v := 6) (by decide) dX7_digest_117 ?_
  refine aw_icmp_ge (tgt := 143) (by decide) dX7_digest_119 (fun z => absurd z (by decide)) (fun _ => ?_)
  refine aw_lload_n (x := (mx (mx (mx (mx (mx (mx h (o.1 0 230)) (o.1 0 231)) (o.1 0 232)) (o.1 0 233)) (o.1 0 234)) (o.1 0 235))) rfl dX7_digest_122 ?_
  refine aw_aload_n (x := ad 7 0 0) rfl dX7_digest_123 ?_
  refine aw_getr (q := (0, 0, 0)) wv7 rfl flX7_10 rfl rfl dX7_digest_124 ?_
  refine aw_getr (q := (4, 0, 0)) (wv0 (by decide)) rfl flX7_187 rfl rfl dX7_digest_127 ?_
  refine aw_iload_n (x := 5) rfl dX7_digest_130 ?_
  refine aw_ild (x := 5) (q := (0, 236)) (y := o.1 0 236) (by decide) (wv4 (j := 0) (by decide)) rfl rfl (Nat.le_of_ble_eq_true rfl) rfl dX7_digest_131 ?_
  refine aw_i2l dX7_digest_132 ?_
  refine aw_rS (As := [.long (mx (mx (mx (mx (mx (mx h (o.1 0 230)) (o.1 0 231)) (o.1 0 232)) (o.1 0 233)) (o.1 0 234)) (o.1 0 235)), .long ((o.1 0 236 : Int32).toInt64)]) (S := []) (v := some (.long (mx (mx (mx (mx (mx (mx (mx h (o.1 0 230)) (o.1 0 231)) (o.1 0 232)) (o.1 0 233)) (o.1 0 234)) (o.1 0 235)) (o.1 0 236)))) (o2 := o) ct_X7_mix (mm_fit_of cbX7_mix (by decide) (by decide)) wq255 wq256 rfl rfl (Nat.le_of_ble_eq_true rfl) (by decide) (by decide) rfl dX7_digest_133 ?_
  refine aw_lstore_n (L2 := [some (.ref (ad 7 0 0)), some (.long (mx (mx (mx (mx (mx (mx (mx h (o.1 0 230)) (o.1 0 231)) (o.1 0 232)) (o.1 0 233)) (o.1 0 234)) (o.1 0 235)) (o.1 0 236))), none, some (.int 5), none]) (by decide) rfl rfl dX7_digest_136 ?_
  refine aw_iinc (n := 1) (x := 5) (v := 6) (L2 := [some (.ref (ad 7 0 0)), some (.long (mx (mx (mx (mx (mx (mx (mx h (o.1 0 230)) (o.1 0 231)) (o.1 0 232)) (o.1 0 233)) (o.1 0 234)) (o.1 0 235)) (o.1 0 236))), none, some (.int 6), none]) rfl (by decide) (by decide) rfl rfl dX7_digest_137 ?_
  refine aw_goto (tgt := 116) (by decide) dX7_digest_140 ?_
  refine aw_iload_n (x := 6) rfl dX7_digest_116 ?_
  refine aw_bipush (v := 6) (by decide) dX7_digest_117 ?_
  refine aw_icmp_ge (tgt := 143) (by decide) dX7_digest_119 (fun _ => ?_) (fun z => absurd z (by decide))
  refine aw_lload_n (x := (mx (mx (mx (mx (mx (mx (mx h (o.1 0 230)) (o.1 0 231)) (o.1 0 232)) (o.1 0 233)) (o.1 0 234)) (o.1 0 235)) (o.1 0 236))) rfl dX7_digest_143 ?_
  refine aw_aload_n (x := ad 7 0 0) rfl dX7_digest_144 ?_
  refine aw_getr (q := (9, 0, 0)) wv7 rfl flX7_28 rfl rfl dX7_digest_145 ?_
  refine aw_geti (q := (5, 0)) (x := nI c) wv9 rfl hk flX7_273 rfl (Or.inl rfl) dX7_digest_148 ?_
  refine aw_i2l dX7_digest_151 ?_
  refine aw_rS (As := [.long (mx (mx (mx (mx (mx (mx (mx h (o.1 0 230)) (o.1 0 231)) (o.1 0 232)) (o.1 0 233)) (o.1 0 234)) (o.1 0 235)) (o.1 0 236)), .long ((nI c : Int32).toInt64)]) (S := []) (v := some (.long (mx (mx (mx (mx (mx (mx (mx (mx h (o.1 0 230)) (o.1 0 231)) (o.1 0 232)) (o.1 0 233)) (o.1 0 234)) (o.1 0 235)) (o.1 0 236)) (nI c)))) (o2 := o) ct_X7_mix (mm_fit_of cbX7_mix (by decide) (by decide)) wq255 wq256 rfl rfl (Nat.le_of_ble_eq_true rfl) (by decide) (by decide) rfl dX7_digest_152 ?_
  exact aw_lret rfl (by decide) (by decide) dX7_digest_155 ⟨rfl, rfl⟩
theorem lp_digs {ad : Nat → Nat → Nat → Nat} {o : wd_S} {n m c : Nat} (V : vs o n m c) : ∀ (k i : Nat) (h : Int64), i + k = 16 → AW ad MX7_digest 66 [some (.ref (ad 7 0 0)), some (.long h), none, some (.int (nI i)), none] [] o 0 0 (RT (some (.long (cs_dg1 (o.1 0) c (cs_dgs (o.1 0) m (k) (i) h)))) o) := by
  obtain ⟨G, Z, hk, hc⟩ := id V
  obtain ⟨g1, g2, g3, g4, g5, g6⟩ := id G
  intro k
  induction k with
  | zero =>
    intro i h hk
    have hi : i = 16 := by omega
    subst hi
    refine aw_iload_n (x := (nI 16)) rfl dX7_digest_66 ?_
    refine aw_bipush (v := 16) (by decide) dX7_digest_67 ?_
    refine aw_icmp_ge (tgt := 101) (by decide) dX7_digest_69 (fun _ => ?_) (fun z => absurd (by decide) z)
    exact AW.post (AW.locs (tl_digest V) (lsub_keep (lsub_keep (lsub_keep (lsub_none (lsub_keep lsub_nil)))))) (fun r o2 q => by first | exact q | simpa [cs_dgs] using q)
  | succ k ih =>
    intro i h hk
    have hi : i < 16 := by omega
    refine aw_iload_n (x := (nI i)) rfl dX7_digest_66 ?_
    refine aw_bipush (v := 16) (by decide) dX7_digest_67 ?_
    refine aw_icmp_ge (tgt := 101) (by decide) dX7_digest_69 (fun z => absurd z (nI_ge (b := 16) hi (by decide))) (fun _ => ?_)
    refine aw_aload_n (x := ad 7 0 0) rfl dX7_digest_72 ?_
    refine aw_getr (q := (0, 0, 0)) wv7 rfl flX7_10 rfl rfl dX7_digest_73 ?_
    refine aw_iload_n (x := (nI i)) rfl dX7_digest_76 ?_
    by_cases q1 : i < m
    · skip
      refine aw_rV (As := [.int (nI i)]) (S := []) (v := some (.ref (ad 3 0 i))) (o2 := o) (ct_X5_subscriberAt_some G q1) (mm_fit_of cbX5_subscriberAt (by decide) (by decide)) wq317 cvX5_subscriberAt (wv0 (by decide)) rfl rfl rfl (Nat.le_of_ble_eq_true rfl) (by decide) (by decide) rfl dX7_digest_77 ?_
      refine aw_astore (L2 := [some (.ref (ad 7 0 0)), some (.long h), none, some (.int (nI i)), some (.ref (ad 3 0 i))]) (by decide) rfl rfl dX7_digest_80 ?_
      refine aw_aload (x := ad 3 0 i) rfl dX7_digest_82 ?_
      refine aw_ifnull dX7_digest_84 ?_
      refine aw_aload_n (x := ad 7 0 0) rfl dX7_digest_87 ?_
      refine aw_lload_n (x := h) rfl dX7_digest_88 ?_
      refine aw_aload (x := ad 3 0 i) rfl dX7_digest_89 ?_
      obtain ⟨l, hl, hh⟩ := g5 i (by omega)
      have hme : hm (o.1 0) i = l := hm_of hh (by omega)
      refine aw_rV (As := [.long h, .ref (ad 3 0 i)]) (S := []) (v := some (.long (mxs (cs_mixs (o.1 0) (hm (o.1 0) i) i) h))) (o2 := o) (by rw [hme]; exact ct_X7_mixSub G hl (by omega) hh) (mm_fit_of cbX7_mixSubscriber (by decide) (by decide)) wq318 cvX7_mixSubscriber wv7 rfl rfl rfl (Nat.le_of_ble_eq_true rfl) (by decide) (by decide) rfl dX7_digest_91 ?_
      refine aw_lstore_n (L2 := [some (.ref (ad 7 0 0)), some (.long (mxs (cs_mixs (o.1 0) (hm (o.1 0) i) i) h)), none, some (.int (nI i)), some (.ref (ad 3 0 i))]) (by decide) rfl rfl dX7_digest_94 ?_
      refine aw_iinc (n := 1) (x := (nI i)) (v := nI (i + 1)) (L2 := [some (.ref (ad 7 0 0)), some (.long (mxs (cs_mixs (o.1 0) (hm (o.1 0) i) i) h)), none, some (.int (nI (i + 1))), some (.ref (ad 3 0 i))]) rfl (nI_1 i) (by decide) rfl rfl dX7_digest_95 ?_
      refine aw_goto (tgt := 66) (by decide) dX7_digest_98 ?_
      have e9 : (RT (some (.long (cs_dg1 (o.1 0) c (cs_dgs (o.1 0) m (k + 1) (i) h)))) o) = (RT (some (.long (cs_dg1 (o.1 0) c (cs_dgs (o.1 0) m (k) (i + 1) (mxs (cs_mixs (o.1 0) (hm (o.1 0) i) i) h))))) o) := by first | (simp [cs_dgs, mem, q1]; done) | (simp_all [cs_dgs, mem, q1]; done)
      rw [e9]
      exact AW.locs (ih (i + 1) (mxs (cs_mixs (o.1 0) (hm (o.1 0) i) i) h) (by omega) ) (lsub_keep (lsub_keep (lsub_keep (lsub_keep (lsub_none lsub_nil)))))
    · skip
      refine aw_rV (As := [.int (nI i)]) (S := []) (v := some (.null)) (o2 := o) (ct_X5_subscriberAt_none (Or.inr (by rw [g3]; exact nI_le (by omega) (by omega)))) (mm_fit_of cbX5_subscriberAt (by decide) (by decide)) wq317 cvX5_subscriberAt (wv0 (by decide)) rfl rfl rfl (Nat.le_of_ble_eq_true rfl) (by decide) (by decide) rfl dX7_digest_77 ?_
      refine aw_astoreN (L2 := [some (.ref (ad 7 0 0)), some (.long h), none, some (.int (nI i)), some (.null)]) (by decide) rfl rfl dX7_digest_80 ?_
      refine aw_aloadN rfl dX7_digest_82 ?_
      refine aw_ifnullN (tgt := 95) (by decide) dX7_digest_84 ?_
      refine aw_iinc (n := 1) (x := (nI i)) (v := nI (i + 1)) (L2 := [some (.ref (ad 7 0 0)), some (.long h), none, some (.int (nI (i + 1))), some (.null)]) rfl (nI_1 i) (by decide) rfl rfl dX7_digest_95 ?_
      refine aw_goto (tgt := 66) (by decide) dX7_digest_98 ?_
      have e9 : (RT (some (.long (cs_dg1 (o.1 0) c (cs_dgs (o.1 0) m (k + 1) (i) h)))) o) = (RT (some (.long (cs_dg1 (o.1 0) c (cs_dgs (o.1 0) m (k) (i + 1) h)))) o) := by first | (simp [cs_dgs, mem, q1]; done) | (simp_all [cs_dgs, mem, q1]; done)
      rw [e9]
      exact AW.locs (ih (i + 1) h (by omega) ) (lsub_keep (lsub_keep (lsub_keep (lsub_keep (lsub_none lsub_nil)))))
theorem t2_digest {ad : Nat → Nat → Nat → Nat} {o : wd_S} {n m c : Nat} (V : vs o n m c) {h : Int64} : AW ad MX7_digest 51 [some (.ref (ad 7 0 0)), some (.long h), none, none, none] [] o 0 0 (RT (some (.long (cs_dg2 (o.1 0) m c h))) o) := by
  obtain ⟨G, Z, hk, hc⟩ := id V
  obtain ⟨g1, g2, g3, g4, g5, g6⟩ := id G
  refine aw_lload_n (x := h) rfl dX7_digest_51 ?_
  refine aw_aload_n (x := ad 7 0 0) rfl dX7_digest_52 ?_
  refine aw_getr (q := (0, 0, 0)) wv7 rfl flX7_10 rfl rfl dX7_digest_53 ?_
  refine aw_geti (q := (0, 101)) (x := nI m) (wv0 (by decide)) rfl g3 flX7_75 rfl (Or.inl rfl) dX7_digest_56 ?_
  refine aw_i2l dX7_digest_59 ?_
  refine aw_rS (As := [.long h, .long ((nI m : Int32).toInt64)]) (S := []) (v := some (.long (mx h (nI m)))) (o2 := o) ct_X7_mix (mm_fit_of cbX7_mix (by decide) (by decide)) wq255 wq256 rfl rfl (Nat.le_of_ble_eq_true rfl) (by decide) (by decide) rfl dX7_digest_60 ?_
  refine aw_lstore_n (L2 := [some (.ref (ad 7 0 0)), some (.long (mx h (nI m))), none, none, none]) (by decide) rfl rfl dX7_digest_63 ?_
  refine aw_iconst (v := 0) (by decide) dX7_digest_64 ?_
  refine aw_istore_n (L2 := [some (.ref (ad 7 0 0)), some (.long (mx h (nI m))), none, some (.int 0), none]) (by decide) rfl rfl dX7_digest_65 ?_
  exact AW.post (AW.locs (lp_digs V 16 0 (mx h (nI m)) (by decide)) (lsub_keep (lsub_keep (lsub_keep (lsub_keep (lsub_keep lsub_nil)))))) (fun r o2 q => q)
theorem lp_digl {ad : Nat → Nat → Nat → Nat} {o : wd_S} {n m c : Nat} (V : vs o n m c) : ∀ (k i : Nat) (h : Int64), i + k = 5 → AW ad MX7_digest 17 [some (.ref (ad 7 0 0)), some (.long h), none, some (.int (nI i)), none] [] o 0 0 (RT (some (.long (cs_dg2 (o.1 0) m c (cs_dgl (o.1 0) n m (k) (i) h)))) o) := by
  obtain ⟨G, Z, hk, hc⟩ := id V
  obtain ⟨g1, g2, g3, g4, g5, g6⟩ := id G
  intro k
  induction k with
  | zero =>
    intro i h hk
    have hi : i = 5 := by omega
    subst hi
    refine aw_iload_n (x := (nI 5)) rfl dX7_digest_17 ?_
    refine aw_iconst (v := 5) (by decide) dX7_digest_18 ?_
    refine aw_icmp_ge (tgt := 51) (by decide) dX7_digest_19 (fun _ => ?_) (fun z => absurd (by decide) z)
    exact AW.post (AW.locs (t2_digest V) (lsub_keep (lsub_keep (lsub_keep (lsub_none (lsub_keep lsub_nil)))))) (fun r o2 q => by first | exact q | simpa [cs_dgl] using q)
  | succ k ih =>
    intro i h hk
    have hi : i < 5 := by omega
    refine aw_iload_n (x := (nI i)) rfl dX7_digest_17 ?_
    refine aw_iconst (v := 5) (by decide) dX7_digest_18 ?_
    refine aw_icmp_ge (tgt := 51) (by decide) dX7_digest_19 (fun z => absurd z (nI_ge (b := 5) hi (by decide))) (fun _ => ?_)
    refine aw_aload_n (x := ad 7 0 0) rfl dX7_digest_22 ?_
    refine aw_getr (q := (0, 0, 0)) wv7 rfl flX7_10 rfl rfl dX7_digest_23 ?_
    refine aw_iload_n (x := (nI i)) rfl dX7_digest_26 ?_
    by_cases q1 : i < n
    · skip
      refine aw_rV (v := some (.ref (ad 1 0 i))) (o2 := o) (ct_X5_loopAt_some G q1) (mm_fit_of cbX5_loopAt (by decide) (by decide)) wq259 cvX5_loopAt (wv0 (by decide)) rfl rfl rfl (Nat.le_of_ble_eq_true rfl) (by decide) (by decide) rfl dX7_digest_27 ?_
      refine aw_astore (L2 := [some (.ref (ad 7 0 0)), some (.long h), none, some (.int (nI i)), some (.ref (ad 1 0 i))]) (by decide) rfl rfl dX7_digest_30 ?_
      refine aw_aload (x := ad 1 0 i) rfl dX7_digest_32 ?_
      refine aw_ifnull dX7_digest_34 ?_
      refine aw_aload_n (x := ad 7 0 0) rfl dX7_digest_37 ?_
      refine aw_lload_n (x := h) rfl dX7_digest_38 ?_
      refine aw_aload (x := ad 1 0 i) rfl dX7_digest_39 ?_
      refine aw_rV (As := [.long h, .ref (ad 1 0 i)]) (S := []) (v := some (.long (mxs (cs_mixl (o.1 0) m i) h))) (o2 := o) (ct_X7_mixLoop G (by omega)) (mm_fit_of cbX7_mixLoop (by decide) (by decide)) wq263 cvX7_mixLoop wv7 rfl rfl rfl (Nat.le_of_ble_eq_true rfl) (by decide) (by decide) rfl dX7_digest_41 ?_
      refine aw_lstore_n (L2 := [some (.ref (ad 7 0 0)), some (.long (mxs (cs_mixl (o.1 0) m i) h)), none, some (.int (nI i)), some (.ref (ad 1 0 i))]) (by decide) rfl rfl dX7_digest_44 ?_
      refine aw_iinc (n := 1) (x := (nI i)) (v := nI (i + 1)) (L2 := [some (.ref (ad 7 0 0)), some (.long (mxs (cs_mixl (o.1 0) m i) h)), none, some (.int (nI (i + 1))), some (.ref (ad 1 0 i))]) rfl (nI_1 i) (by decide) rfl rfl dX7_digest_45 ?_
      refine aw_goto (tgt := 17) (by decide) dX7_digest_48 ?_
      have e9 : (RT (some (.long (cs_dg2 (o.1 0) m c (cs_dgl (o.1 0) n m (k + 1) (i) h)))) o) = (RT (some (.long (cs_dg2 (o.1 0) m c (cs_dgl (o.1 0) n m (k) (i + 1) (mxs (cs_mixl (o.1 0) m i) h))))) o) := by first | (simp [cs_dgl, mem, q1]; done) | (simp_all [cs_dgl, mem, q1]; done)
      rw [e9]
      exact AW.locs (ih (i + 1) (mxs (cs_mixl (o.1 0) m i) h) (by omega) ) (lsub_keep (lsub_keep (lsub_keep (lsub_keep (lsub_none lsub_nil)))))
    · skip
      refine aw_rV (v := some .null) (o2 := o) (ct_X5_loopAt_none (Or.inr (by rw [(G).1]; exact nI_le (by omega) (by omega)))) (mm_fit_of cbX5_loopAt (by decide) (by decide)) wq259 cvX5_loopAt (wv0 (by decide)) rfl rfl rfl (Nat.le_of_ble_eq_true rfl) (by decide) (by decide) rfl dX7_digest_27 ?_
      refine aw_astoreN (L2 := [some (.ref (ad 7 0 0)), some (.long h), none, some (.int (nI i)), some (.null)]) (by decide) rfl rfl dX7_digest_30 ?_
      refine aw_aloadN rfl dX7_digest_32 ?_
      refine aw_ifnullN (tgt := 45) (by decide) dX7_digest_34 ?_
      refine aw_iinc (n := 1) (x := (nI i)) (v := nI (i + 1)) (L2 := [some (.ref (ad 7 0 0)), some (.long h), none, some (.int (nI (i + 1))), some (.null)]) rfl (nI_1 i) (by decide) rfl rfl dX7_digest_45 ?_
      refine aw_goto (tgt := 17) (by decide) dX7_digest_48 ?_
      have e9 : (RT (some (.long (cs_dg2 (o.1 0) m c (cs_dgl (o.1 0) n m (k + 1) (i) h)))) o) = (RT (some (.long (cs_dg2 (o.1 0) m c (cs_dgl (o.1 0) n m (k) (i + 1) h)))) o) := by first | (simp [cs_dgl, mem, q1]; done) | (simp_all [cs_dgl, mem, q1]; done)
      rw [e9]
      exact AW.locs (ih (i + 1) h (by omega) ) (lsub_keep (lsub_keep (lsub_keep (lsub_keep (lsub_none lsub_nil)))))
theorem ct_digest {ad : Nat → Nat → Nat → Nat} {o : wd_S} {n m c : Nat} (V : vs o n m c) : CT ad MX7_digest [.ref (ad 7 0 0)] o (RT (some (.long (cs_digest (o.1 0) n m c))) o) := by
  obtain ⟨G, Z, hk, hc⟩ := id V
  obtain ⟨g1, g2, g3, g4, g5, g6⟩ := id G
  refine CT.of (L := [some (.ref (ad 7 0 0)), none, none, none, none]) rfl rfl (by decide) (Nat.le_of_ble_eq_true rfl) rfl ?_
  refine aw_ldc2 (v := 1857) wq254 dX7_digest_0 ?_
  refine aw_aload_n (x := ad 7 0 0) rfl dX7_digest_3 ?_
  refine aw_getr (q := (0, 0, 0)) wv7 rfl flX7_10 rfl rfl dX7_digest_4 ?_
  refine aw_geti (q := (0, 0)) (x := nI n) (wv0 (by decide)) rfl g1 flX7_39 rfl (Or.inl rfl) dX7_digest_7 ?_
  refine aw_i2l dX7_digest_10 ?_
  refine aw_rS (As := [.long 1857, .long ((nI n : Int32).toInt64)]) (S := []) (v := some (.long (mx 1857 (nI n)))) (o2 := o) ct_X7_mix (mm_fit_of cbX7_mix (by decide) (by decide)) wq255 wq256 rfl rfl (Nat.le_of_ble_eq_true rfl) (by decide) (by decide) rfl dX7_digest_11 ?_
  refine aw_lstore_n (L2 := [some (.ref (ad 7 0 0)), some (.long (mx 1857 (nI n))), none, none, none]) (by decide) rfl rfl dX7_digest_14 ?_
  refine aw_iconst (v := 0) (by decide) dX7_digest_15 ?_
  refine aw_istore_n (L2 := [some (.ref (ad 7 0 0)), some (.long (mx 1857 (nI n))), none, some (.int 0), none]) (by decide) rfl rfl dX7_digest_16 ?_
  exact AW.post (AW.locs (lp_digl V 5 0 (mx 1857 (nI n)) (by decide)) (lsub_keep (lsub_keep (lsub_keep (lsub_keep (lsub_keep lsub_nil)))))) (fun r o2 q => q)
