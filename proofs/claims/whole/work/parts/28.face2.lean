/-! PartyLines: its public methods, second half -/
def cs_ticks (n m : Nat) : Nat → (Nat → Int32) → Nat → Int32
  | 0, B => B
  | k + 1, B => cs_ticks n m k (cs_tick B n m)
theorem cg_ticks {n m : Nat} : ∀ (k : Nat) (B : Nat → Int32), cg B n m → cg (cs_ticks n m k B) n m
  | 0, _, G => G
  | k + 1, B, G => cg_ticks k _ (cg_tick G)
theorem lp_X7_tick {ad : Nat → Nat → Nat → Nat} {n m t : Nat} (ht : t ≤ 200) : ∀ (k i : Nat) (o : wd_S) , i + k = t → (cg (o.1 0) n m) → AW ad MX7_tick 35 [some (.ref (ad 7 0 0)), some (.int (nI t)), some (.int (nI i))] [] o 0 0 (RT (some (.int (sumF (cs_use (cs_ticks n m (k) (o.1 0)) n) 5 0))) (wd_row o 0 (cs_ticks n m (k) (o.1 0)))) := by
  intro k
  induction k with
  | zero =>
    intro i o hk G
    refine aw_iload_n (x := (nI i)) rfl dX7_tick_35 ?_
    refine aw_iload_n (x := (nI t)) rfl dX7_tick_36 ?_
    refine aw_icmp_ge (tgt := 53) (by decide) dX7_tick_37 (fun _ => ?_) (fun z => absurd (nI_le (by omega) (by omega)) z)
    refine aw_aload_n (x := ad 7 0 0) rfl dX7_tick_53 ?_
    refine aw_getr (q := (0, 0, 0)) wv7 rfl flX7_10 rfl rfl dX7_tick_54 ?_
    refine aw_rV (As := []) (S := []) (v := some (.int (sumF (cs_use (o.1 0) n) 5 0))) (o2 := o) (ct_X5_loopsInUse G) (mm_fit_of cbX5_loopsInUse (by decide) (by decide)) wq674 cvX5_loopsInUse (wv0 (by decide)) rfl rfl rfl (Nat.le_of_ble_eq_true rfl) (by decide) (by decide) rfl dX7_tick_57 ?_
    exact aw_iret rfl (by decide) (by decide) dX7_tick_60 ⟨by first | rfl | (simp [cs_ticks, row_id, mem]; done) | (simp_all [cs_ticks, row_id, mem]; done), by first | rfl | (simp [cs_ticks, row_id, mem]; done) | (simp_all [cs_ticks, row_id, mem]; done)⟩
  | succ k ih =>
    intro i o hk G
    refine aw_iload_n (x := (nI i)) rfl dX7_tick_35 ?_
    refine aw_iload_n (x := (nI t)) rfl dX7_tick_36 ?_
    refine aw_icmp_ge (tgt := 53) (by decide) dX7_tick_37 (fun z => absurd z (nI_ge (by omega) (by omega))) (fun _ => ?_)
    refine aw_aload_n (x := ad 7 0 0) rfl dX7_tick_40 ?_
    refine aw_getr (q := (8, 0, 0)) wv7 rfl flX7_21 rfl rfl dX7_tick_41 ?_
    refine aw_rV (As := []) (S := []) (v := none) (o2 := (wd_row o 0 (cs_tick (o.1 0) n m))) (ct_X1_tick G) (mm_fit_of cbX1_passOneTick (by decide) (by decide)) wq650 cvX1_passOneTick wv8 rfl rfl rfl (Nat.le_of_ble_eq_true rfl) (by decide) (by decide) rfl dX7_tick_44 ?_
    refine aw_iinc (n := 1) (x := (nI i)) (v := nI (i + 1)) (L2 := [some (.ref (ad 7 0 0)), some (.int (nI t)), some (.int (nI (i + 1)))]) rfl (nI_1 i) (by decide) rfl rfl dX7_tick_47 ?_
    refine aw_goto (tgt := 35) (by decide) dX7_tick_50 ?_
    have e9 : (RT (some (.int (sumF (cs_use (cs_ticks n m (k + 1) (o.1 0)) n) 5 0))) (wd_row o 0 (cs_ticks n m (k + 1) (o.1 0)))) = (RT (some (.int (sumF (cs_use (cs_ticks n m (k) ((wd_row o 0 (cs_tick (o.1 0) n m)).1 0)) n) 5 0))) (wd_row (wd_row o 0 (cs_tick (o.1 0) n m)) 0 (cs_ticks n m (k) ((wd_row o 0 (cs_tick (o.1 0) n m)).1 0)))) := by simp only [cs_ticks, row_self, row_row]
    rw [e9]
    exact AW.locs (ih (i + 1) (wd_row o 0 (cs_tick (o.1 0) n m))  (by omega) (by rw [row_self]; exact cg_tick G)) (lsub_keep (lsub_keep (lsub_keep lsub_nil)))
def cf_tick (o : wd_S) (n m c t : Nat) : Out := oI (sumF (cs_use (cs_ticks n m t (o.1 0)) n) 5 0) (wd_row (cs_sv o c) 0 (cs_ticks n m t (o.1 0)))
theorem ct_tick_ok {ad : Nat → Nat → Nat → Nat} {o : wd_S} {n m c : Nat} (V : vs o n m c) {t : Nat} (h1 : 1 ≤ t) (ht : t ≤ 200) : CT ad MX7_tick [.ref (ad 7 0 0), .int (nI t)] o (OT (cf_tick o n m c t)) := by
  obtain ⟨G, Z, hk, hc⟩ := id V
  obtain ⟨g1, g2, g3, g4, g5, g6⟩ := id G
  refine CT.pi (fun hp => ?_)
  refine CT.of (L := [some (.ref (ad 7 0 0)), some (.int (nI t)), none]) rfl rfl (by decide) (Nat.le_of_ble_eq_true rfl) rfl ?_
  refine aw_iload_n (x := (nI t)) rfl dX7_tick_0 ?_
  refine aw_iconst (v := 1) (by decide) dX7_tick_1 ?_
  refine aw_icmp_lt (tgt := 12) (by decide) dX7_tick_2 (fun z => absurd z (nI_nlt (b := 1) h1 (by omega))) (fun _ => ?_)
  refine aw_iload_n (x := (nI t)) rfl dX7_tick_5 ?_
  refine aw_sipush (v := 200) (by decide) dX7_tick_6 ?_
  refine aw_icmp_le (tgt := 22) (by decide) dX7_tick_9 (fun _ => ?_) (fun z => absurd (nI_le (b := 200) ht (by decide)) z)
  refine aw_aload_n (x := ad 7 0 0) rfl dX7_tick_22 ?_
  refine aw_getr (q := (9, 0, 0)) wv7 rfl flX7_28 rfl rfl dX7_tick_23 ?_
  refine aw_aload_n (x := ad 7 0 0) rfl dX7_tick_26 ?_
  refine aw_getr (q := (0, 0, 0)) wv7 rfl flX7_10 rfl rfl dX7_tick_27 ?_
  refine aw_rV (As := [.ref (ad 0 0 0)]) (S := []) (v := none) (o2 := (cs_sv o c)) (ct_X2_save G hk hc Z) (mm_fit_of cbX2_save (by decide) (by decide)) wq423 cvX2_save wv9 rfl rfl rfl (Nat.le_of_ble_eq_true rfl) (by decide) (by decide) rfl dX7_tick_30 ?_
  obtain ⟨o1, ho1⟩ : ∃ z, z = (cs_sv o c) := ⟨_, rfl⟩
  rw [← ho1]
  have Go1 : cg (o1.1 0) n m := by rw [ho1]; rw [sv_0 hp hc]; exact G
  refine aw_iconst (v := 0) (by decide) dX7_tick_33 ?_
  refine aw_istore_n (L2 := [some (.ref (ad 7 0 0)), some (.int (nI t)), some (.int 0)]) (by decide) rfl rfl dX7_tick_34 ?_
  refine AW.wide (AW.post (lp_X7_tick ht t 0 o1 (by omega) Go1) (fun r o2 q => ?_)) (Nat.zero_le _) (Nat.zero_le _)
  subst ho1
  simpa [cf_tick, sv_0 hp hc, OT, oI, RT] using q
theorem ct_tick_bad {ad : Nat → Nat → Nat → Nat} {o : wd_S} {n m c : Nat} (V : vs o n m c) {x : Int32} (hb : x < 1 ∨ x > 200) : CT ad MX7_tick [.ref (ad 7 0 0), .int x] o (OT (oX eA o)) := by
  obtain ⟨G, Z, hk, hc⟩ := id V
  obtain ⟨g1, g2, g3, g4, g5, g6⟩ := id G
  refine CT.pi (fun hp => ?_)
  refine CT.of (L := [some (.ref (ad 7 0 0)), some (.int x), none]) rfl rfl (by decide) (Nat.le_of_ble_eq_true rfl) rfl ?_
  refine aw_iload_n (x := x) rfl dX7_tick_0 ?_
  refine aw_iconst (v := 1) (by decide) dX7_tick_1 ?_
  refine aw_icmp_lt (tgt := 12) (by decide) dX7_tick_2 (fun b1 => ?_) (fun b1 => ?_)
  · skip
    exact aw_throw th70_74 rfl (text := "n is out of range") (by decide) rfl dX7_tick_12 dX7_tick_15 dX7_tick_16 dX7_tick_18 dX7_tick_21 (by decide) (Nat.le_of_ble_eq_true rfl) (by decide) (by decide) ⟨by (first | with_reducible rfl | (simp [sv_0 hp hc, oI, oX, wd_w_row, row_self, row_row, b1]; done) | (simp_all [sv_0 hp hc, oI, oX, wd_w_row, row_self, row_row, b1]; done)), by (first | with_reducible rfl | (simp [sv_0 hp hc, oI, oX, wd_w_row, row_self, row_row, b1]; done) | (simp_all [sv_0 hp hc, oI, oX, wd_w_row, row_self, row_row, b1]; done))⟩
  · skip
    refine aw_iload_n (x := x) rfl dX7_tick_5 ?_
    refine aw_sipush (v := 200) (by decide) dX7_tick_6 ?_
    refine aw_icmp_le (tgt := 22) (by decide) dX7_tick_9 (fun z => absurd z (by rcases hb with h | h; exact absurd h b1; exact Int32.not_le.mpr h)) (fun _ => ?_)
    exact aw_throw th70_74 rfl (text := "n is out of range") (by decide) rfl dX7_tick_12 dX7_tick_15 dX7_tick_16 dX7_tick_18 dX7_tick_21 (by decide) (Nat.le_of_ble_eq_true rfl) (by decide) (by decide) ⟨by (first | with_reducible rfl | (simp [sv_0 hp hc, oI, oX, wd_w_row, row_self, row_row, b1]; done) | (simp_all [sv_0 hp hc, oI, oX, wd_w_row, row_self, row_row, b1]; done)), by (first | with_reducible rfl | (simp [sv_0 hp hc, oI, oX, wd_w_row, row_self, row_row, b1]; done) | (simp_all [sv_0 hp hc, oI, oX, wd_w_row, row_self, row_row, b1]; done))⟩
def cf_limit (o : wd_S) (c : Nat) (x : Int32) : Out := if x < 10 then oX eA o else if x ≤ 200 then oI (o.1 0 230) (wd_row (cs_sv o c) 0 (upd (o.1 0) 230 x)) else oX eA o
theorem ct_limit {ad : Nat → Nat → Nat → Nat} {o : wd_S} {n m c : Nat} (V : vs o n m c) {x : Int32} : CT ad MX7_setLimit [.ref (ad 7 0 0), .int x] o (OT (cf_limit o c x)) := by
  obtain ⟨G, Z, hk, hc⟩ := id V
  obtain ⟨g1, g2, g3, g4, g5, g6⟩ := id G
  refine CT.pi (fun hp => ?_)
  refine CT.of (L := [some (.ref (ad 7 0 0)), some (.int x), none]) rfl rfl (by decide) (Nat.le_of_ble_eq_true rfl) rfl ?_
  refine aw_iload_n (x := x) rfl dX7_setLimit_0 ?_
  refine aw_bipush (v := 10) (by decide) dX7_setLimit_1 ?_
  refine aw_icmp_lt (tgt := 13) (by decide) dX7_setLimit_3 (fun b1 => ?_) (fun b1 => ?_)
  · skip
    exact aw_throw th70_74 rfl (text := "limit is out of range") (by decide) rfl dX7_setLimit_13 dX7_setLimit_16 dX7_setLimit_17 dX7_setLimit_19 dX7_setLimit_22 (by decide) (Nat.le_of_ble_eq_true rfl) (by decide) (by decide) ⟨by (first | with_reducible rfl | (simp [cf_limit, sv_0 hp hc, oI, oX, wd_w_row, row_self, row_row, b1]; done) | (simp_all [cf_limit, sv_0 hp hc, oI, oX, wd_w_row, row_self, row_row, b1]; done)), by (first | with_reducible rfl | (simp [cf_limit, sv_0 hp hc, oI, oX, wd_w_row, row_self, row_row, b1]; done) | (simp_all [cf_limit, sv_0 hp hc, oI, oX, wd_w_row, row_self, row_row, b1]; done))⟩
  · skip
    refine aw_iload_n (x := x) rfl dX7_setLimit_6 ?_
    refine aw_sipush (v := 200) (by decide) dX7_setLimit_7 ?_
    refine aw_icmp_le (tgt := 23) (by decide) dX7_setLimit_10 (fun b2 => ?_) (fun b2 => ?_)
    · skip
      refine aw_aload_n (x := ad 7 0 0) rfl dX7_setLimit_23 ?_
      refine aw_getr (q := (9, 0, 0)) wv7 rfl flX7_28 rfl rfl dX7_setLimit_24 ?_
      refine aw_aload_n (x := ad 7 0 0) rfl dX7_setLimit_27 ?_
      refine aw_getr (q := (0, 0, 0)) wv7 rfl flX7_10 rfl rfl dX7_setLimit_28 ?_
      refine aw_rV (As := [.ref (ad 0 0 0)]) (S := []) (v := none) (o2 := (cs_sv o c)) (ct_X2_save G hk hc Z) (mm_fit_of cbX2_save (by decide) (by decide)) wq423 cvX2_save wv9 rfl rfl rfl (Nat.le_of_ble_eq_true rfl) (by decide) (by decide) rfl dX7_setLimit_31 ?_
      obtain ⟨o1, ho1⟩ : ∃ z, z = (cs_sv o c) := ⟨_, rfl⟩
      rw [← ho1]
      have Go1 : cg (o1.1 0) n m := by rw [ho1]; rw [sv_0 hp hc]; exact G
      refine aw_aload_n (x := ad 7 0 0) rfl dX7_setLimit_34 ?_
      refine aw_getr (q := (0, 0, 0)) wv7 rfl flX7_10 rfl rfl dX7_setLimit_35 ?_
      refine aw_geti (q := (0, 230)) (x := o1.1 0 230) (wv0 (by decide)) rfl rfl flX7_177 rfl (Or.inl rfl) dX7_setLimit_38 ?_
      refine aw_istore_n (L2 := [some (.ref (ad 7 0 0)), some (.int x), some (.int (o1.1 0 230))]) (by decide) rfl rfl dX7_setLimit_41 ?_
      refine aw_aload_n (x := ad 7 0 0) rfl dX7_setLimit_42 ?_
      refine aw_getr (q := (0, 0, 0)) wv7 rfl flX7_10 rfl rfl dX7_setLimit_43 ?_
      refine aw_iload_n (x := x) rfl dX7_setLimit_46 ?_
      refine aw_puti (q := (0, 230)) (wv0 (by decide)) rfl fwX7_177 rfl rfl dX7_setLimit_47 ?_
      refine aw_iload_n (x := (o1.1 0 230)) rfl dX7_setLimit_50 ?_
      exact aw_iret rfl (by decide) (by decide) dX7_setLimit_51 ⟨by (subst ho1; first | with_reducible rfl | (simp [cf_limit, sv_0 hp hc, oI, oX, wd_w_row, row_self, row_row, b1, b2]; done) | (simp_all [cf_limit, sv_0 hp hc, oI, oX, wd_w_row, row_self, row_row, b1, b2]; done)), by (subst ho1; first | with_reducible rfl | (simp [cf_limit, sv_0 hp hc, oI, oX, wd_w_row, row_self, row_row, b1, b2]; done) | (simp_all [cf_limit, sv_0 hp hc, oI, oX, wd_w_row, row_self, row_row, b1, b2]; done))⟩
    · skip
      exact aw_throw th70_74 rfl (text := "limit is out of range") (by decide) rfl dX7_setLimit_13 dX7_setLimit_16 dX7_setLimit_17 dX7_setLimit_19 dX7_setLimit_22 (by decide) (Nat.le_of_ble_eq_true rfl) (by decide) (by decide) ⟨by (first | with_reducible rfl | (simp [cf_limit, sv_0 hp hc, oI, oX, wd_w_row, row_self, row_row, b1, b2]; done) | (simp_all [cf_limit, sv_0 hp hc, oI, oX, wd_w_row, row_self, row_row, b1, b2]; done)), by (first | with_reducible rfl | (simp [cf_limit, sv_0 hp hc, oI, oX, wd_w_row, row_self, row_row, b1, b2]; done) | (simp_all [cf_limit, sv_0 hp hc, oI, oX, wd_w_row, row_self, row_row, b1, b2]; done))⟩
def cf_rings (o : wd_S) (n m : Nat) (x : Int32) : Out := match lk n x with
  | none => oX eI o
  | some l => oI (cs_sound (o.1 0) m l) o
def cf_would (o : wd_S) (m : Nat) (x y : Int32) : Out := match lk m x with
  | none => oX eI o
  | some s => oI (cs_dials (o.1 0) m s y) o
theorem ct_rings {ad : Nat → Nat → Nat → Nat} {o : wd_S} {n m c : Nat} (V : vs o n m c) {x : Int32} : CT ad MX7_rings [.ref (ad 7 0 0), .int x] o (OT (cf_rings o n m x)) := by
  obtain ⟨G, Z, hk, hc⟩ := id V
  obtain ⟨g1, g2, g3, g4, g5, g6⟩ := id G
  refine CT.pi (fun hp => ?_)
  refine CT.of (L := [some (.ref (ad 7 0 0)), some (.int x)]) rfl rfl (by decide) (Nat.le_of_ble_eq_true rfl) rfl ?_
  refine aw_aload_n (x := ad 7 0 0) rfl dX7_rings_0 ?_
  refine aw_getr (q := (8, 0, 0)) wv7 rfl flX7_21 rfl rfl dX7_rings_1 ?_
  refine aw_aload_n (x := ad 7 0 0) rfl dX7_rings_4 ?_
  refine aw_iload_n (x := x) rfl dX7_rings_5 ?_
  rcases k0 : lk n x with _ | l
  · skip
    exact aw_xV (As := [.int x]) (S := [.ref (ad 8 0 0)]) (ct_X7_knownLoop_none G k0) (mm_fit_of cbX7_knownLoop (by decide) (by decide)) wq460 cvX7_knownLoop wv7 rfl rfl rfl (Nat.le_of_ble_eq_true rfl) (by decide) (by decide) rfl dX7_rings_6 ⟨by (first | with_reducible rfl | (simp [cf_rings, sv_0 hp hc, oI, oX, wd_w_row, row_self, row_row, k0]; done) | (simp_all [cf_rings, sv_0 hp hc, oI, oX, wd_w_row, row_self, row_row, k0]; done)), by (first | with_reducible rfl | (simp [cf_rings, sv_0 hp hc, oI, oX, wd_w_row, row_self, row_row, k0]; done) | (simp_all [cf_rings, sv_0 hp hc, oI, oX, wd_w_row, row_self, row_row, k0]; done))⟩
  · skip
    have hl := (lk_some k0).2
    have hl5 : l < 5 := by omega
    refine aw_rV (As := [.int x]) (S := [.ref (ad 8 0 0)]) (v := some (.ref (ad 1 0 l))) (o2 := o) (ct_X7_knownLoop_some G k0) (mm_fit_of cbX7_knownLoop (by decide) (by decide)) wq460 cvX7_knownLoop wv7 rfl rfl rfl (Nat.le_of_ble_eq_true rfl) (by decide) (by decide) rfl dX7_rings_6 ?_
    refine aw_rV (As := [.ref (ad 1 0 l)]) (S := []) (v := some (.int (cs_sound (o.1 0) m l))) (o2 := o) (ct_X1_sound G hl5) (mm_fit_of cbX1_soundOf (by decide) (by decide)) wq283 cvX1_soundOf wv8 rfl rfl rfl (Nat.le_of_ble_eq_true rfl) (by decide) (by decide) rfl dX7_rings_9 ?_
    exact aw_iret rfl (by decide) (by decide) dX7_rings_12 ⟨by (first | with_reducible rfl | (simp [cf_rings, sv_0 hp hc, oI, oX, wd_w_row, row_self, row_row, k0]; done) | (simp_all [cf_rings, sv_0 hp hc, oI, oX, wd_w_row, row_self, row_row, k0]; done)), by (first | with_reducible rfl | (simp [cf_rings, sv_0 hp hc, oI, oX, wd_w_row, row_self, row_row, k0]; done) | (simp_all [cf_rings, sv_0 hp hc, oI, oX, wd_w_row, row_self, row_row, k0]; done))⟩
theorem ct_would {ad : Nat → Nat → Nat → Nat} {o : wd_S} {n m c : Nat} (V : vs o n m c) {x y : Int32} : CT ad MX7_wouldDial [.ref (ad 7 0 0), .int x, .int y] o (OT (cf_would o m x y)) := by
  obtain ⟨G, Z, hk, hc⟩ := id V
  obtain ⟨g1, g2, g3, g4, g5, g6⟩ := id G
  refine CT.pi (fun hp => ?_)
  refine CT.of (L := [some (.ref (ad 7 0 0)), some (.int x), some (.int y)]) rfl rfl (by decide) (Nat.le_of_ble_eq_true rfl) rfl ?_
  refine aw_aload_n (x := ad 7 0 0) rfl dX7_wouldDial_0 ?_
  refine aw_getr (q := (8, 0, 0)) wv7 rfl flX7_21 rfl rfl dX7_wouldDial_1 ?_
  refine aw_aload_n (x := ad 7 0 0) rfl dX7_wouldDial_4 ?_
  refine aw_iload_n (x := x) rfl dX7_wouldDial_5 ?_
  rcases k0 : lk m x with _ | s
  · skip
    exact aw_xV (As := [.int x]) (S := [.ref (ad 8 0 0)]) (ct_X7_knownSub_none G k0) (mm_fit_of cbX7_knownSubscriber (by decide) (by decide)) wq522 cvX7_knownSubscriber wv7 rfl rfl rfl (Nat.le_of_ble_eq_true rfl) (by decide) (by decide) rfl dX7_wouldDial_6 ⟨by (first | with_reducible rfl | (simp [cf_would, sv_0 hp hc, oI, oX, wd_w_row, row_self, row_row, k0]; done) | (simp_all [cf_would, sv_0 hp hc, oI, oX, wd_w_row, row_self, row_row, k0]; done)), by (first | with_reducible rfl | (simp [cf_would, sv_0 hp hc, oI, oX, wd_w_row, row_self, row_row, k0]; done) | (simp_all [cf_would, sv_0 hp hc, oI, oX, wd_w_row, row_self, row_row, k0]; done))⟩
  · skip
    have hs := (lk_some k0).2
    have hs16 : s < 16 := by omega
    obtain ⟨l, hl, hh⟩ := g5 s hs
    have hl5 : l < 5 := by omega
    have hme : hm (o.1 0) s = l := hm_of hh hl5
    refine aw_rV (As := [.int x]) (S := [.ref (ad 8 0 0)]) (v := some (.ref (ad 3 0 s))) (o2 := o) (ct_X7_knownSub_some G k0) (mm_fit_of cbX7_knownSubscriber (by decide) (by decide)) wq522 cvX7_knownSubscriber wv7 rfl rfl rfl (Nat.le_of_ble_eq_true rfl) (by decide) (by decide) rfl dX7_wouldDial_6 ?_
    refine aw_iload_n (x := y) rfl dX7_wouldDial_9 ?_
    refine aw_rV (As := [.ref (ad 3 0 s), .int y]) (S := []) (v := some (.int (cs_dials (o.1 0) m s y))) (o2 := o) (ct_X1_dials G hl hs hh) (mm_fit_of cbX1_phaseByDialing (by decide) (by decide)) wq700 cvX1_phaseByDialing wv8 rfl rfl rfl (Nat.le_of_ble_eq_true rfl) (by decide) (by decide) rfl dX7_wouldDial_10 ?_
    exact aw_iret rfl (by decide) (by decide) dX7_wouldDial_13 ⟨by (first | with_reducible rfl | (simp [cf_would, sv_0 hp hc, oI, oX, wd_w_row, row_self, row_row, k0, hme]; done) | (simp_all [cf_would, sv_0 hp hc, oI, oX, wd_w_row, row_self, row_row, k0, hme]; done)), by (first | with_reducible rfl | (simp [cf_would, sv_0 hp hc, oI, oX, wd_w_row, row_self, row_row, k0, hme]; done) | (simp_all [cf_would, sv_0 hp hc, oI, oX, wd_w_row, row_self, row_row, k0, hme]; done))⟩
theorem ct_told_0 {ad : Nat → Nat → Nat → Nat} {o : wd_S} {n m c : Nat} (V : vs o n m c)  : CT ad MX7_told [.ref (ad 7 0 0), .int 0] o (OT (oI (o.1 0 231) o)) := by
  obtain ⟨G, Z, hk, hc⟩ := id V
  obtain ⟨g1, g2, g3, g4, g5, g6⟩ := id G
  refine CT.pi (fun hp => ?_)
  refine CT.of (L := [some (.ref (ad 7 0 0)), some (.int 0)]) rfl rfl (by decide) (Nat.le_of_ble_eq_true rfl) rfl ?_
  refine aw_iload_n (x := 0) rfl dX7_told_0 ?_
  refine aw_if_lt (tgt := 10) (by decide) dX7_told_1 (fun z => absurd z (by decide)) (fun _ => ?_)
  refine aw_iload_n (x := 0) rfl dX7_told_4 ?_
  refine aw_bipush (v := 6) (by decide) dX7_told_5 ?_
  refine aw_icmp_lt (tgt := 20) (by decide) dX7_told_7 (fun _ => ?_) (fun z => absurd z (by decide))
  refine aw_aload_n (x := ad 7 0 0) rfl dX7_told_20 ?_
  refine aw_getr (q := (0, 0, 0)) wv7 rfl flX7_10 rfl rfl dX7_told_21 ?_
  refine aw_getr (q := (4, 0, 0)) (wv0 (by decide)) rfl flX7_187 rfl rfl dX7_told_24 ?_
  refine aw_iload_n (x := 0) rfl dX7_told_27 ?_
  refine aw_ild (x := 0) (q := (0, 231)) (y := o.1 0 231) (by decide) (wv4 (j := 0) (by decide)) rfl rfl (Nat.le_of_ble_eq_true rfl) rfl dX7_told_28 ?_
  exact aw_iret rfl (by decide) (by decide) dX7_told_29 ⟨by (first | with_reducible rfl | (simp [sv_0 hp hc, oI, oX, wd_w_row, row_self, row_row]; done) | (simp_all [sv_0 hp hc, oI, oX, wd_w_row, row_self, row_row]; done)), by (first | with_reducible rfl | (simp [sv_0 hp hc, oI, oX, wd_w_row, row_self, row_row]; done) | (simp_all [sv_0 hp hc, oI, oX, wd_w_row, row_self, row_row]; done))⟩
theorem ct_told_1 {ad : Nat → Nat → Nat → Nat} {o : wd_S} {n m c : Nat} (V : vs o n m c)  : CT ad MX7_told [.ref (ad 7 0 0), .int 1] o (OT (oI (o.1 0 232) o)) := by
  obtain ⟨G, Z, hk, hc⟩ := id V
  obtain ⟨g1, g2, g3, g4, g5, g6⟩ := id G
  refine CT.pi (fun hp => ?_)
  refine CT.of (L := [some (.ref (ad 7 0 0)), some (.int 1)]) rfl rfl (by decide) (Nat.le_of_ble_eq_true rfl) rfl ?_
  refine aw_iload_n (x := 1) rfl dX7_told_0 ?_
  refine aw_if_lt (tgt := 10) (by decide) dX7_told_1 (fun z => absurd z (by decide)) (fun _ => ?_)
  refine aw_iload_n (x := 1) rfl dX7_told_4 ?_
  refine aw_bipush (v := 6) (by decide) dX7_told_5 ?_
  refine aw_icmp_lt (tgt := 20) (by decide) dX7_told_7 (fun _ => ?_) (fun z => absurd z (by decide))
  refine aw_aload_n (x := ad 7 0 0) rfl dX7_told_20 ?_
  refine aw_getr (q := (0, 0, 0)) wv7 rfl flX7_10 rfl rfl dX7_told_21 ?_
  refine aw_getr (q := (4, 0, 0)) (wv0 (by decide)) rfl flX7_187 rfl rfl dX7_told_24 ?_
  refine aw_iload_n (x := 1) rfl dX7_told_27 ?_
  refine aw_ild (x := 1) (q := (0, 232)) (y := o.1 0 232) (by decide) (wv4 (j := 0) (by decide)) rfl rfl (Nat.le_of_ble_eq_true rfl) rfl dX7_told_28 ?_
  exact aw_iret rfl (by decide) (by decide) dX7_told_29 ⟨by (first | with_reducible rfl | (simp [sv_0 hp hc, oI, oX, wd_w_row, row_self, row_row]; done) | (simp_all [sv_0 hp hc, oI, oX, wd_w_row, row_self, row_row]; done)), by (first | with_reducible rfl | (simp [sv_0 hp hc, oI, oX, wd_w_row, row_self, row_row]; done) | (simp_all [sv_0 hp hc, oI, oX, wd_w_row, row_self, row_row]; done))⟩
theorem ct_told_2 {ad : Nat → Nat → Nat → Nat} {o : wd_S} {n m c : Nat} (V : vs o n m c)  : CT ad MX7_told [.ref (ad 7 0 0), .int 2] o (OT (oI (o.1 0 233) o)) := by
  obtain ⟨G, Z, hk, hc⟩ := id V
  obtain ⟨g1, g2, g3, g4, g5, g6⟩ := id G
  refine CT.pi (fun hp => ?_)
  refine CT.of (L := [some (.ref (ad 7 0 0)), some (.int 2)]) rfl rfl (by decide) (Nat.le_of_ble_eq_true rfl) rfl ?_
  refine aw_iload_n (x := 2) rfl dX7_told_0 ?_
  refine aw_if_lt (tgt := 10) (by decide) dX7_told_1 (fun z => absurd z (by decide)) (fun _ => ?_)
  refine aw_iload_n (x := 2) rfl dX7_told_4 ?_
  refine aw_bipush (v := 6) (by decide) dX7_told_5 ?_
  refine aw_icmp_lt (tgt := 20) (by decide) dX7_told_7 (fun _ => ?_) (fun z => absurd z (by decide))
  refine aw_aload_n (x := ad 7 0 0) rfl dX7_told_20 ?_
  refine aw_getr (q := (0, 0, 0)) wv7 rfl flX7_10 rfl rfl dX7_told_21 ?_
  refine aw_getr (q := (4, 0, 0)) (wv0 (by decide)) rfl flX7_187 rfl rfl dX7_told_24 ?_
  refine aw_iload_n (x := 2) rfl dX7_told_27 ?_
  refine aw_ild (x := 2) (q := (0, 233)) (y := o.1 0 233) (by decide) (wv4 (j := 0) (by decide)) rfl rfl (Nat.le_of_ble_eq_true rfl) rfl dX7_told_28 ?_
  exact aw_iret rfl (by decide) (by decide) dX7_told_29 ⟨by (first | with_reducible rfl | (simp [sv_0 hp hc, oI, oX, wd_w_row, row_self, row_row]; done) | (simp_all [sv_0 hp hc, oI, oX, wd_w_row, row_self, row_row]; done)), by (first | with_reducible rfl | (simp [sv_0 hp hc, oI, oX, wd_w_row, row_self, row_row]; done) | (simp_all [sv_0 hp hc, oI, oX, wd_w_row, row_self, row_row]; done))⟩
theorem ct_told_3 {ad : Nat → Nat → Nat → Nat} {o : wd_S} {n m c : Nat} (V : vs o n m c)  : CT ad MX7_told [.ref (ad 7 0 0), .int 3] o (OT (oI (o.1 0 234) o)) := by
  obtain ⟨G, Z, hk, hc⟩ := id V
  obtain ⟨g1, g2, g3, g4, g5, g6⟩ := id G
  refine CT.pi (fun hp => ?_)
  refine CT.of (L := [some (.ref (ad 7 0 0)), some (.int 3)]) rfl rfl (by decide) (Nat.le_of_ble_eq_true rfl) rfl ?_
  refine aw_iload_n (x := 3) rfl dX7_told_0 ?_
  refine aw_if_lt (tgt := 10) (by decide) dX7_told_1 (fun z => absurd z (by decide)) (fun _ => ?_)
  refine aw_iload_n (x := 3) rfl dX7_told_4 ?_
  refine aw_bipush (v := 6) (by decide) dX7_told_5 ?_
  refine aw_icmp_lt (tgt := 20) (by decide) dX7_told_7 (fun _ => ?_) (fun z => absurd z (by decide))
  refine aw_aload_n (x := ad 7 0 0) rfl dX7_told_20 ?_
  refine aw_getr (q := (0, 0, 0)) wv7 rfl flX7_10 rfl rfl dX7_told_21 ?_
  refine aw_getr (q := (4, 0, 0)) (wv0 (by decide)) rfl flX7_187 rfl rfl dX7_told_24 ?_
  refine aw_iload_n (x := 3) rfl dX7_told_27 ?_
  refine aw_ild (x := 3) (q := (0, 234)) (y := o.1 0 234) (by decide) (wv4 (j := 0) (by decide)) rfl rfl (Nat.le_of_ble_eq_true rfl) rfl dX7_told_28 ?_
  exact aw_iret rfl (by decide) (by decide) dX7_told_29 ⟨by (first | with_reducible rfl | (simp [sv_0 hp hc, oI, oX, wd_w_row, row_self, row_row]; done) | (simp_all [sv_0 hp hc, oI, oX, wd_w_row, row_self, row_row]; done)), by (first | with_reducible rfl | (simp [sv_0 hp hc, oI, oX, wd_w_row, row_self, row_row]; done) | (simp_all [sv_0 hp hc, oI, oX, wd_w_row, row_self, row_row]; done))⟩
theorem ct_told_4 {ad : Nat → Nat → Nat → Nat} {o : wd_S} {n m c : Nat} (V : vs o n m c)  : CT ad MX7_told [.ref (ad 7 0 0), .int 4] o (OT (oI (o.1 0 235) o)) := by
  obtain ⟨G, Z, hk, hc⟩ := id V
  obtain ⟨g1, g2, g3, g4, g5, g6⟩ := id G
  refine CT.pi (fun hp => ?_)
  refine CT.of (L := [some (.ref (ad 7 0 0)), some (.int 4)]) rfl rfl (by decide) (Nat.le_of_ble_eq_true rfl) rfl ?_
  refine aw_iload_n (x := 4) rfl dX7_told_0 ?_
  refine aw_if_lt (tgt := 10) (by decide) dX7_told_1 (fun z => absurd z (by decide)) (fun _ => ?_)
  refine aw_iload_n (x := 4) rfl dX7_told_4 ?_
  refine aw_bipush (v := 6) (by decide) dX7_told_5 ?_
  refine aw_icmp_lt (tgt := 20) (by decide) dX7_told_7 (fun _ => ?_) (fun z => absurd z (by decide))
  refine aw_aload_n (x := ad 7 0 0) rfl dX7_told_20 ?_
  refine aw_getr (q := (0, 0, 0)) wv7 rfl flX7_10 rfl rfl dX7_told_21 ?_
  refine aw_getr (q := (4, 0, 0)) (wv0 (by decide)) rfl flX7_187 rfl rfl dX7_told_24 ?_
  refine aw_iload_n (x := 4) rfl dX7_told_27 ?_
  refine aw_ild (x := 4) (q := (0, 235)) (y := o.1 0 235) (by decide) (wv4 (j := 0) (by decide)) rfl rfl (Nat.le_of_ble_eq_true rfl) rfl dX7_told_28 ?_
  exact aw_iret rfl (by decide) (by decide) dX7_told_29 ⟨by (first | with_reducible rfl | (simp [sv_0 hp hc, oI, oX, wd_w_row, row_self, row_row]; done) | (simp_all [sv_0 hp hc, oI, oX, wd_w_row, row_self, row_row]; done)), by (first | with_reducible rfl | (simp [sv_0 hp hc, oI, oX, wd_w_row, row_self, row_row]; done) | (simp_all [sv_0 hp hc, oI, oX, wd_w_row, row_self, row_row]; done))⟩
theorem ct_told_5 {ad : Nat → Nat → Nat → Nat} {o : wd_S} {n m c : Nat} (V : vs o n m c)  : CT ad MX7_told [.ref (ad 7 0 0), .int 5] o (OT (oI (o.1 0 236) o)) := by
  obtain ⟨G, Z, hk, hc⟩ := id V
  obtain ⟨g1, g2, g3, g4, g5, g6⟩ := id G
  refine CT.pi (fun hp => ?_)
  refine CT.of (L := [some (.ref (ad 7 0 0)), some (.int 5)]) rfl rfl (by decide) (Nat.le_of_ble_eq_true rfl) rfl ?_
  refine aw_iload_n (x := 5) rfl dX7_told_0 ?_
  refine aw_if_lt (tgt := 10) (by decide) dX7_told_1 (fun z => absurd z (by decide)) (fun _ => ?_)
  refine aw_iload_n (x := 5) rfl dX7_told_4 ?_
  refine aw_bipush (v := 6) (by decide) dX7_told_5 ?_
  refine aw_icmp_lt (tgt := 20) (by decide) dX7_told_7 (fun _ => ?_) (fun z => absurd z (by decide))
  refine aw_aload_n (x := ad 7 0 0) rfl dX7_told_20 ?_
  refine aw_getr (q := (0, 0, 0)) wv7 rfl flX7_10 rfl rfl dX7_told_21 ?_
  refine aw_getr (q := (4, 0, 0)) (wv0 (by decide)) rfl flX7_187 rfl rfl dX7_told_24 ?_
  refine aw_iload_n (x := 5) rfl dX7_told_27 ?_
  refine aw_ild (x := 5) (q := (0, 236)) (y := o.1 0 236) (by decide) (wv4 (j := 0) (by decide)) rfl rfl (Nat.le_of_ble_eq_true rfl) rfl dX7_told_28 ?_
  exact aw_iret rfl (by decide) (by decide) dX7_told_29 ⟨by (first | with_reducible rfl | (simp [sv_0 hp hc, oI, oX, wd_w_row, row_self, row_row]; done) | (simp_all [sv_0 hp hc, oI, oX, wd_w_row, row_self, row_row]; done)), by (first | with_reducible rfl | (simp [sv_0 hp hc, oI, oX, wd_w_row, row_self, row_row]; done) | (simp_all [sv_0 hp hc, oI, oX, wd_w_row, row_self, row_row]; done))⟩
theorem ct_told_bad {ad : Nat → Nat → Nat → Nat} {o : wd_S} {n m c : Nat} (V : vs o n m c) {x : Int32} (hb : x < 0 ∨ x ≥ 6) : CT ad MX7_told [.ref (ad 7 0 0), .int x] o (OT (oX eA o)) := by
  obtain ⟨G, Z, hk, hc⟩ := id V
  obtain ⟨g1, g2, g3, g4, g5, g6⟩ := id G
  refine CT.pi (fun hp => ?_)
  refine CT.of (L := [some (.ref (ad 7 0 0)), some (.int x)]) rfl rfl (by decide) (Nat.le_of_ble_eq_true rfl) rfl ?_
  refine aw_iload_n (x := x) rfl dX7_told_0 ?_
  refine aw_if_lt (tgt := 10) (by decide) dX7_told_1 (fun b1 => ?_) (fun b1 => ?_)
  · skip
    exact aw_throw th70_74 rfl (text := "what is out of range") (by decide) rfl dX7_told_10 dX7_told_13 dX7_told_14 dX7_told_16 dX7_told_19 (by decide) (Nat.le_of_ble_eq_true rfl) (by decide) (by decide) ⟨by (first | with_reducible rfl | (simp [sv_0 hp hc, oI, oX, wd_w_row, row_self, row_row, b1]; done) | (simp_all [sv_0 hp hc, oI, oX, wd_w_row, row_self, row_row, b1]; done)), by (first | with_reducible rfl | (simp [sv_0 hp hc, oI, oX, wd_w_row, row_self, row_row, b1]; done) | (simp_all [sv_0 hp hc, oI, oX, wd_w_row, row_self, row_row, b1]; done))⟩
  · skip
    refine aw_iload_n (x := x) rfl dX7_told_4 ?_
    refine aw_bipush (v := 6) (by decide) dX7_told_5 ?_
    refine aw_icmp_lt (tgt := 20) (by decide) dX7_told_7 (fun z => absurd z (by rcases hb with h | h; exact absurd h b1; exact Int32.not_lt.mpr h)) (fun _ => ?_)
    exact aw_throw th70_74 rfl (text := "what is out of range") (by decide) rfl dX7_told_10 dX7_told_13 dX7_told_14 dX7_told_16 dX7_told_19 (by decide) (Nat.le_of_ble_eq_true rfl) (by decide) (by decide) ⟨by (first | with_reducible rfl | (simp [sv_0 hp hc, oI, oX, wd_w_row, row_self, row_row, b1]; done) | (simp_all [sv_0 hp hc, oI, oX, wd_w_row, row_self, row_row, b1]; done)), by (first | with_reducible rfl | (simp [sv_0 hp hc, oI, oX, wd_w_row, row_self, row_row, b1]; done) | (simp_all [sv_0 hp hc, oI, oX, wd_w_row, row_self, row_row, b1]; done))⟩
def cf_clen (o : wd_S) (x : Int32) : Out := if cs_isCode x = 0 then oX eA o else oI (tc_len x) o
theorem ct_clen {ad : Nat → Nat → Nat → Nat} {o : wd_S} {n m c : Nat} (V : vs o n m c) {x : Int32} : CT ad MX7_codeLength [.ref (ad 7 0 0), .int x] o (OT (cf_clen o x)) := by
  obtain ⟨G, Z, hk, hc⟩ := id V
  obtain ⟨g1, g2, g3, g4, g5, g6⟩ := id G
  refine CT.pi (fun hp => ?_)
  refine CT.of (L := [some (.ref (ad 7 0 0)), some (.int x)]) rfl rfl (by decide) (Nat.le_of_ble_eq_true rfl) rfl ?_
  refine aw_iload_n (x := x) rfl dX7_codeLength_0 ?_
  refine aw_rS (As := [.int x]) (S := []) (v := some (.int (cs_isCode x))) (o2 := o) ct_X0_isCode (mm_fit_of cbX0_isCode (by decide) (by decide)) wq483 wq484 rfl rfl (Nat.le_of_ble_eq_true rfl) (by decide) (by decide) rfl dX7_codeLength_1 ?_
  refine aw_if_ne (tgt := 17) (by decide) dX7_codeLength_4 (fun b1 => ?_) (fun b1 => ?_)
  · skip
    refine aw_iload_n (x := x) rfl dX7_codeLength_17 ?_
    refine aw_rS (As := [.int x]) (S := []) (v := some (.int (tc_len x))) (o2 := o) (ct_X0_lengthOf (isCode_rg b1).1 (isCode_rg b1).2) (mm_fit_of cbX0_lengthOf (by decide) (by decide)) wq716 wq301 rfl rfl (Nat.le_of_ble_eq_true rfl) (by decide) (by decide) rfl dX7_codeLength_18 ?_
    exact aw_iret rfl (by decide) (by decide) dX7_codeLength_21 ⟨by (first | with_reducible rfl | (simp [cf_clen, sv_0 hp hc, oI, oX, wd_w_row, row_self, row_row, b1]; done) | (simp_all [cf_clen, sv_0 hp hc, oI, oX, wd_w_row, row_self, row_row, b1]; done)), by (first | with_reducible rfl | (simp [cf_clen, sv_0 hp hc, oI, oX, wd_w_row, row_self, row_row, b1]; done) | (simp_all [cf_clen, sv_0 hp hc, oI, oX, wd_w_row, row_self, row_row, b1]; done))⟩
  · skip
    exact aw_throw th70_74 rfl (text := "code is out of range") (by decide) rfl dX7_codeLength_7 dX7_codeLength_10 dX7_codeLength_11 dX7_codeLength_13 dX7_codeLength_16 (by decide) (Nat.le_of_ble_eq_true rfl) (by decide) (by decide) ⟨by (first | with_reducible rfl | (simp [cf_clen, sv_0 hp hc, oI, oX, wd_w_row, row_self, row_row, b1]; done) | (simp_all [cf_clen, sv_0 hp hc, oI, oX, wd_w_row, row_self, row_row, b1]; done)), by (first | with_reducible rfl | (simp [cf_clen, sv_0 hp hc, oI, oX, wd_w_row, row_self, row_row, b1]; done) | (simp_all [cf_clen, sv_0 hp hc, oI, oX, wd_w_row, row_self, row_row, b1]; done))⟩
theorem i32_t1 {x : Int32} (h0 : ¬ x < 0) (h1 : x < 1) : x = 0 := by
  obtain ⟨j, hj, rfl⟩ := nI_of h0
  have hj2 : j < 1 := (nI_ltI (b := 1) hj (by decide)).1 h1
  rcases (show j = 0 by omega) with rfl <;> decide
theorem i32_t2 {x : Int32} (h0 : ¬ x < 0) (h1 : x < 2) : x = 0 ∨ x = 1 := by
  obtain ⟨j, hj, rfl⟩ := nI_of h0
  have hj2 : j < 2 := (nI_ltI (b := 2) hj (by decide)).1 h1
  rcases (show j = 0 ∨ j = 1 by omega) with rfl | rfl <;> decide
theorem i32_t3 {x : Int32} (h0 : ¬ x < 0) (h1 : x < 3) : x = 0 ∨ x = 1 ∨ x = 2 := by
  obtain ⟨j, hj, rfl⟩ := nI_of h0
  have hj2 : j < 3 := (nI_ltI (b := 3) hj (by decide)).1 h1
  rcases (show j = 0 ∨ j = 1 ∨ j = 2 by omega) with rfl | rfl | rfl <;> decide
theorem i32_t6 {x : Int32} (h0 : ¬ x < 0) (h1 : x < 6) : x = 0 ∨ x = 1 ∨ x = 2 ∨ x = 3 ∨ x = 4 ∨ x = 5 := by
  obtain ⟨j, hj, rfl⟩ := nI_of h0
  have hj2 : j < 6 := (nI_ltI (b := 6) hj (by decide)).1 h1
  rcases (show j = 0 ∨ j = 1 ∨ j = 2 ∨ j = 3 ∨ j = 4 ∨ j = 5 by omega) with rfl | rfl | rfl | rfl | rfl | rfl <;> decide
def tc_cr (c k : Int32) : Int32 := if k < 0 then -1 else if k < tc_n c then tc_ring c k else -1
theorem ct_cring_1 {ad : Nat → Nat → Nat → Nat} {o : wd_S} {n m c : Nat} (V : vs o n m c) {k : Int32} : CT ad MX7_codeRing [.ref (ad 7 0 0), .int 1, .int k] o (OT (oI (tc_cr 1 k) o)) := by
  obtain ⟨G, Z, hk, hc⟩ := id V
  obtain ⟨g1, g2, g3, g4, g5, g6⟩ := id G
  refine CT.pi (fun hp => ?_)
  refine CT.of (L := [some (.ref (ad 7 0 0)), some (.int 1), some (.int k)]) rfl rfl (by decide) (Nat.le_of_ble_eq_true rfl) rfl ?_
  refine aw_iload_n (x := 1) rfl dX7_codeRing_0 ?_
  refine aw_rS (As := [.int 1]) (S := []) (v := some (.int (cs_isCode 1))) (o2 := o) ct_X0_isCode (mm_fit_of cbX0_isCode (by decide) (by decide)) wq483 wq484 rfl rfl (Nat.le_of_ble_eq_true rfl) (by decide) (by decide) rfl dX7_codeRing_1 ?_
  refine aw_if_ne (tgt := 17) (by decide) dX7_codeRing_4 (fun _ => ?_) (fun z => absurd z (by decide))
  refine aw_iload_n (x := k) rfl dX7_codeRing_17 ?_
  refine aw_if_lt (tgt := 29) (by decide) dX7_codeRing_18 (fun b1 => ?_) (fun b1 => ?_)
  · skip
    refine aw_iconst (v := (-1)) (by decide) dX7_codeRing_29 ?_
    exact aw_iret rfl (by decide) (by decide) dX7_codeRing_30 ⟨by first | rfl | decide | (simp [oI, tc_cr, b1, show tc_n 1 = 1 by decide]; done) | (simp_all [oI, tc_cr, show tc_n 1 = 1 by decide]; done), rfl⟩
  · skip
    refine aw_iload_n (x := k) rfl dX7_codeRing_21 ?_
    refine aw_iload_n (x := 1) rfl dX7_codeRing_22 ?_
    refine aw_rS (As := [.int 1]) (S := [.int k]) (v := some (.int 1)) (o2 := o) ct_X0_ringCount_1 (mm_fit_of cbX0_ringCount (by decide) (by decide)) wq724 wq304 rfl rfl (Nat.le_of_ble_eq_true rfl) (by decide) (by decide) rfl dX7_codeRing_23 ?_
    refine aw_icmp_lt (tgt := 31) (by decide) dX7_codeRing_26 (fun b2 => ?_) (fun b2 => ?_)
    · skip
      refine aw_iload_n (x := 1) rfl dX7_codeRing_31 ?_
      refine aw_iload_n (x := k) rfl dX7_codeRing_32 ?_
      have hk0 := i32_t1 b1 b2
      subst hk0
      · skip
        refine aw_rS (As := [.int 1, .int 0]) (S := []) (v := some (.int 0)) (o2 := o) ct_X0_isLong_1_0 (mm_fit_of cbX0_isLong (by decide) (by decide)) wq725 wq310 rfl rfl (Nat.le_of_ble_eq_true rfl) (by decide) (by decide) rfl dX7_codeRing_33 ?_
        refine aw_if_eq (tgt := 43) (by decide) dX7_codeRing_36 (fun _ => ?_) (fun z => absurd z (by decide))
        refine aw_iconst (v := 0) (by decide) dX7_codeRing_43 ?_
        exact aw_iret rfl (by decide) (by decide) dX7_codeRing_44 ⟨by first | rfl | decide | (simp [oI, tc_cr, b1, b2, show tc_n 1 = 1 by decide]; done) | (simp_all [oI, tc_cr, show tc_n 1 = 1 by decide]; done), rfl⟩
    · skip
      refine aw_iconst (v := (-1)) (by decide) dX7_codeRing_29 ?_
      exact aw_iret rfl (by decide) (by decide) dX7_codeRing_30 ⟨by first | rfl | decide | (simp [oI, tc_cr, b1, b2, show tc_n 1 = 1 by decide]; done) | (simp_all [oI, tc_cr, show tc_n 1 = 1 by decide]; done), rfl⟩
theorem ct_cring_2 {ad : Nat → Nat → Nat → Nat} {o : wd_S} {n m c : Nat} (V : vs o n m c) {k : Int32} : CT ad MX7_codeRing [.ref (ad 7 0 0), .int 2, .int k] o (OT (oI (tc_cr 2 k) o)) := by
  obtain ⟨G, Z, hk, hc⟩ := id V
  obtain ⟨g1, g2, g3, g4, g5, g6⟩ := id G
  refine CT.pi (fun hp => ?_)
  refine CT.of (L := [some (.ref (ad 7 0 0)), some (.int 2), some (.int k)]) rfl rfl (by decide) (Nat.le_of_ble_eq_true rfl) rfl ?_
  refine aw_iload_n (x := 2) rfl dX7_codeRing_0 ?_
  refine aw_rS (As := [.int 2]) (S := []) (v := some (.int (cs_isCode 2))) (o2 := o) ct_X0_isCode (mm_fit_of cbX0_isCode (by decide) (by decide)) wq483 wq484 rfl rfl (Nat.le_of_ble_eq_true rfl) (by decide) (by decide) rfl dX7_codeRing_1 ?_
  refine aw_if_ne (tgt := 17) (by decide) dX7_codeRing_4 (fun _ => ?_) (fun z => absurd z (by decide))
  refine aw_iload_n (x := k) rfl dX7_codeRing_17 ?_
  refine aw_if_lt (tgt := 29) (by decide) dX7_codeRing_18 (fun b1 => ?_) (fun b1 => ?_)
  · skip
    refine aw_iconst (v := (-1)) (by decide) dX7_codeRing_29 ?_
    exact aw_iret rfl (by decide) (by decide) dX7_codeRing_30 ⟨by first | rfl | decide | (simp [oI, tc_cr, b1, show tc_n 2 = 1 by decide]; done) | (simp_all [oI, tc_cr, show tc_n 2 = 1 by decide]; done), rfl⟩
  · skip
    refine aw_iload_n (x := k) rfl dX7_codeRing_21 ?_
    refine aw_iload_n (x := 2) rfl dX7_codeRing_22 ?_
    refine aw_rS (As := [.int 2]) (S := [.int k]) (v := some (.int 1)) (o2 := o) ct_X0_ringCount_2 (mm_fit_of cbX0_ringCount (by decide) (by decide)) wq724 wq304 rfl rfl (Nat.le_of_ble_eq_true rfl) (by decide) (by decide) rfl dX7_codeRing_23 ?_
    refine aw_icmp_lt (tgt := 31) (by decide) dX7_codeRing_26 (fun b2 => ?_) (fun b2 => ?_)
    · skip
      refine aw_iload_n (x := 2) rfl dX7_codeRing_31 ?_
      refine aw_iload_n (x := k) rfl dX7_codeRing_32 ?_
      have hk0 := i32_t1 b1 b2
      subst hk0
      · skip
        refine aw_rS (As := [.int 2, .int 0]) (S := []) (v := some (.int 1)) (o2 := o) ct_X0_isLong_2_0 (mm_fit_of cbX0_isLong (by decide) (by decide)) wq725 wq310 rfl rfl (Nat.le_of_ble_eq_true rfl) (by decide) (by decide) rfl dX7_codeRing_33 ?_
        refine aw_if_eq (tgt := 43) (by decide) dX7_codeRing_36 (fun z => absurd z (by decide)) (fun _ => ?_)
        refine aw_iconst (v := 1) (by decide) dX7_codeRing_39 ?_
        refine aw_goto (tgt := 44) (by decide) dX7_codeRing_40 ?_
        exact aw_iret rfl (by decide) (by decide) dX7_codeRing_44 ⟨by first | rfl | decide | (simp [oI, tc_cr, b1, b2, show tc_n 2 = 1 by decide]; done) | (simp_all [oI, tc_cr, show tc_n 2 = 1 by decide]; done), rfl⟩
    · skip
      refine aw_iconst (v := (-1)) (by decide) dX7_codeRing_29 ?_
      exact aw_iret rfl (by decide) (by decide) dX7_codeRing_30 ⟨by first | rfl | decide | (simp [oI, tc_cr, b1, b2, show tc_n 2 = 1 by decide]; done) | (simp_all [oI, tc_cr, show tc_n 2 = 1 by decide]; done), rfl⟩
theorem ct_cring_3 {ad : Nat → Nat → Nat → Nat} {o : wd_S} {n m c : Nat} (V : vs o n m c) {k : Int32} : CT ad MX7_codeRing [.ref (ad 7 0 0), .int 3, .int k] o (OT (oI (tc_cr 3 k) o)) := by
  obtain ⟨G, Z, hk, hc⟩ := id V
  obtain ⟨g1, g2, g3, g4, g5, g6⟩ := id G
  refine CT.pi (fun hp => ?_)
  refine CT.of (L := [some (.ref (ad 7 0 0)), some (.int 3), some (.int k)]) rfl rfl (by decide) (Nat.le_of_ble_eq_true rfl) rfl ?_
  refine aw_iload_n (x := 3) rfl dX7_codeRing_0 ?_
  refine aw_rS (As := [.int 3]) (S := []) (v := some (.int (cs_isCode 3))) (o2 := o) ct_X0_isCode (mm_fit_of cbX0_isCode (by decide) (by decide)) wq483 wq484 rfl rfl (Nat.le_of_ble_eq_true rfl) (by decide) (by decide) rfl dX7_codeRing_1 ?_
  refine aw_if_ne (tgt := 17) (by decide) dX7_codeRing_4 (fun _ => ?_) (fun z => absurd z (by decide))
  refine aw_iload_n (x := k) rfl dX7_codeRing_17 ?_
  refine aw_if_lt (tgt := 29) (by decide) dX7_codeRing_18 (fun b1 => ?_) (fun b1 => ?_)
  · skip
    refine aw_iconst (v := (-1)) (by decide) dX7_codeRing_29 ?_
    exact aw_iret rfl (by decide) (by decide) dX7_codeRing_30 ⟨by first | rfl | decide | (simp [oI, tc_cr, b1, show tc_n 3 = 2 by decide]; done) | (simp_all [oI, tc_cr, show tc_n 3 = 2 by decide]; done), rfl⟩
  · skip
    refine aw_iload_n (x := k) rfl dX7_codeRing_21 ?_
    refine aw_iload_n (x := 3) rfl dX7_codeRing_22 ?_
    refine aw_rS (As := [.int 3]) (S := [.int k]) (v := some (.int 2)) (o2 := o) ct_X0_ringCount_3 (mm_fit_of cbX0_ringCount (by decide) (by decide)) wq724 wq304 rfl rfl (Nat.le_of_ble_eq_true rfl) (by decide) (by decide) rfl dX7_codeRing_23 ?_
    refine aw_icmp_lt (tgt := 31) (by decide) dX7_codeRing_26 (fun b2 => ?_) (fun b2 => ?_)
    · skip
      refine aw_iload_n (x := 3) rfl dX7_codeRing_31 ?_
      refine aw_iload_n (x := k) rfl dX7_codeRing_32 ?_
      rcases i32_t2 b1 b2 with rfl | rfl
      · skip
        refine aw_rS (As := [.int 3, .int 0]) (S := []) (v := some (.int 0)) (o2 := o) ct_X0_isLong_3_0 (mm_fit_of cbX0_isLong (by decide) (by decide)) wq725 wq310 rfl rfl (Nat.le_of_ble_eq_true rfl) (by decide) (by decide) rfl dX7_codeRing_33 ?_
        refine aw_if_eq (tgt := 43) (by decide) dX7_codeRing_36 (fun _ => ?_) (fun z => absurd z (by decide))
        refine aw_iconst (v := 0) (by decide) dX7_codeRing_43 ?_
        exact aw_iret rfl (by decide) (by decide) dX7_codeRing_44 ⟨by first | rfl | decide | (simp [oI, tc_cr, b1, b2, show tc_n 3 = 2 by decide]; done) | (simp_all [oI, tc_cr, show tc_n 3 = 2 by decide]; done), rfl⟩
      · skip
        refine aw_rS (As := [.int 3, .int 1]) (S := []) (v := some (.int 0)) (o2 := o) ct_X0_isLong_3_1 (mm_fit_of cbX0_isLong (by decide) (by decide)) wq725 wq310 rfl rfl (Nat.le_of_ble_eq_true rfl) (by decide) (by decide) rfl dX7_codeRing_33 ?_
        refine aw_if_eq (tgt := 43) (by decide) dX7_codeRing_36 (fun _ => ?_) (fun z => absurd z (by decide))
        refine aw_iconst (v := 0) (by decide) dX7_codeRing_43 ?_
        exact aw_iret rfl (by decide) (by decide) dX7_codeRing_44 ⟨by first | rfl | decide | (simp [oI, tc_cr, b1, b2, show tc_n 3 = 2 by decide]; done) | (simp_all [oI, tc_cr, show tc_n 3 = 2 by decide]; done), rfl⟩
    · skip
      refine aw_iconst (v := (-1)) (by decide) dX7_codeRing_29 ?_
      exact aw_iret rfl (by decide) (by decide) dX7_codeRing_30 ⟨by first | rfl | decide | (simp [oI, tc_cr, b1, b2, show tc_n 3 = 2 by decide]; done) | (simp_all [oI, tc_cr, show tc_n 3 = 2 by decide]; done), rfl⟩
theorem ct_cring_4 {ad : Nat → Nat → Nat → Nat} {o : wd_S} {n m c : Nat} (V : vs o n m c) {k : Int32} : CT ad MX7_codeRing [.ref (ad 7 0 0), .int 4, .int k] o (OT (oI (tc_cr 4 k) o)) := by
  obtain ⟨G, Z, hk, hc⟩ := id V
  obtain ⟨g1, g2, g3, g4, g5, g6⟩ := id G
  refine CT.pi (fun hp => ?_)
  refine CT.of (L := [some (.ref (ad 7 0 0)), some (.int 4), some (.int k)]) rfl rfl (by decide) (Nat.le_of_ble_eq_true rfl) rfl ?_
  refine aw_iload_n (x := 4) rfl dX7_codeRing_0 ?_
  refine aw_rS (As := [.int 4]) (S := []) (v := some (.int (cs_isCode 4))) (o2 := o) ct_X0_isCode (mm_fit_of cbX0_isCode (by decide) (by decide)) wq483 wq484 rfl rfl (Nat.le_of_ble_eq_true rfl) (by decide) (by decide) rfl dX7_codeRing_1 ?_
  refine aw_if_ne (tgt := 17) (by decide) dX7_codeRing_4 (fun _ => ?_) (fun z => absurd z (by decide))
  refine aw_iload_n (x := k) rfl dX7_codeRing_17 ?_
  refine aw_if_lt (tgt := 29) (by decide) dX7_codeRing_18 (fun b1 => ?_) (fun b1 => ?_)
  · skip
    refine aw_iconst (v := (-1)) (by decide) dX7_codeRing_29 ?_
    exact aw_iret rfl (by decide) (by decide) dX7_codeRing_30 ⟨by first | rfl | decide | (simp [oI, tc_cr, b1, show tc_n 4 = 2 by decide]; done) | (simp_all [oI, tc_cr, show tc_n 4 = 2 by decide]; done), rfl⟩
  · skip
    refine aw_iload_n (x := k) rfl dX7_codeRing_21 ?_
    refine aw_iload_n (x := 4) rfl dX7_codeRing_22 ?_
    refine aw_rS (As := [.int 4]) (S := [.int k]) (v := some (.int 2)) (o2 := o) ct_X0_ringCount_4 (mm_fit_of cbX0_ringCount (by decide) (by decide)) wq724 wq304 rfl rfl (Nat.le_of_ble_eq_true rfl) (by decide) (by decide) rfl dX7_codeRing_23 ?_
    refine aw_icmp_lt (tgt := 31) (by decide) dX7_codeRing_26 (fun b2 => ?_) (fun b2 => ?_)
    · skip
      refine aw_iload_n (x := 4) rfl dX7_codeRing_31 ?_
      refine aw_iload_n (x := k) rfl dX7_codeRing_32 ?_
      rcases i32_t2 b1 b2 with rfl | rfl
      · skip
        refine aw_rS (As := [.int 4, .int 0]) (S := []) (v := some (.int 0)) (o2 := o) ct_X0_isLong_4_0 (mm_fit_of cbX0_isLong (by decide) (by decide)) wq725 wq310 rfl rfl (Nat.le_of_ble_eq_true rfl) (by decide) (by decide) rfl dX7_codeRing_33 ?_
        refine aw_if_eq (tgt := 43) (by decide) dX7_codeRing_36 (fun _ => ?_) (fun z => absurd z (by decide))
        refine aw_iconst (v := 0) (by decide) dX7_codeRing_43 ?_
        exact aw_iret rfl (by decide) (by decide) dX7_codeRing_44 ⟨by first | rfl | decide | (simp [oI, tc_cr, b1, b2, show tc_n 4 = 2 by decide]; done) | (simp_all [oI, tc_cr, show tc_n 4 = 2 by decide]; done), rfl⟩
      · skip
        refine aw_rS (As := [.int 4, .int 1]) (S := []) (v := some (.int 1)) (o2 := o) ct_X0_isLong_4_1 (mm_fit_of cbX0_isLong (by decide) (by decide)) wq725 wq310 rfl rfl (Nat.le_of_ble_eq_true rfl) (by decide) (by decide) rfl dX7_codeRing_33 ?_
        refine aw_if_eq (tgt := 43) (by decide) dX7_codeRing_36 (fun z => absurd z (by decide)) (fun _ => ?_)
        refine aw_iconst (v := 1) (by decide) dX7_codeRing_39 ?_
        refine aw_goto (tgt := 44) (by decide) dX7_codeRing_40 ?_
        exact aw_iret rfl (by decide) (by decide) dX7_codeRing_44 ⟨by first | rfl | decide | (simp [oI, tc_cr, b1, b2, show tc_n 4 = 2 by decide]; done) | (simp_all [oI, tc_cr, show tc_n 4 = 2 by decide]; done), rfl⟩
    · skip
      refine aw_iconst (v := (-1)) (by decide) dX7_codeRing_29 ?_
      exact aw_iret rfl (by decide) (by decide) dX7_codeRing_30 ⟨by first | rfl | decide | (simp [oI, tc_cr, b1, b2, show tc_n 4 = 2 by decide]; done) | (simp_all [oI, tc_cr, show tc_n 4 = 2 by decide]; done), rfl⟩
theorem ct_cring_5 {ad : Nat → Nat → Nat → Nat} {o : wd_S} {n m c : Nat} (V : vs o n m c) {k : Int32} : CT ad MX7_codeRing [.ref (ad 7 0 0), .int 5, .int k] o (OT (oI (tc_cr 5 k) o)) := by
  obtain ⟨G, Z, hk, hc⟩ := id V
  obtain ⟨g1, g2, g3, g4, g5, g6⟩ := id G
  refine CT.pi (fun hp => ?_)
  refine CT.of (L := [some (.ref (ad 7 0 0)), some (.int 5), some (.int k)]) rfl rfl (by decide) (Nat.le_of_ble_eq_true rfl) rfl ?_
  refine aw_iload_n (x := 5) rfl dX7_codeRing_0 ?_
  refine aw_rS (As := [.int 5]) (S := []) (v := some (.int (cs_isCode 5))) (o2 := o) ct_X0_isCode (mm_fit_of cbX0_isCode (by decide) (by decide)) wq483 wq484 rfl rfl (Nat.le_of_ble_eq_true rfl) (by decide) (by decide) rfl dX7_codeRing_1 ?_
  refine aw_if_ne (tgt := 17) (by decide) dX7_codeRing_4 (fun _ => ?_) (fun z => absurd z (by decide))
  refine aw_iload_n (x := k) rfl dX7_codeRing_17 ?_
  refine aw_if_lt (tgt := 29) (by decide) dX7_codeRing_18 (fun b1 => ?_) (fun b1 => ?_)
  · skip
    refine aw_iconst (v := (-1)) (by decide) dX7_codeRing_29 ?_
    exact aw_iret rfl (by decide) (by decide) dX7_codeRing_30 ⟨by first | rfl | decide | (simp [oI, tc_cr, b1, show tc_n 5 = 2 by decide]; done) | (simp_all [oI, tc_cr, show tc_n 5 = 2 by decide]; done), rfl⟩
  · skip
    refine aw_iload_n (x := k) rfl dX7_codeRing_21 ?_
    refine aw_iload_n (x := 5) rfl dX7_codeRing_22 ?_
    refine aw_rS (As := [.int 5]) (S := [.int k]) (v := some (.int 2)) (o2 := o) ct_X0_ringCount_5 (mm_fit_of cbX0_ringCount (by decide) (by decide)) wq724 wq304 rfl rfl (Nat.le_of_ble_eq_true rfl) (by decide) (by decide) rfl dX7_codeRing_23 ?_
    refine aw_icmp_lt (tgt := 31) (by decide) dX7_codeRing_26 (fun b2 => ?_) (fun b2 => ?_)
    · skip
      refine aw_iload_n (x := 5) rfl dX7_codeRing_31 ?_
      refine aw_iload_n (x := k) rfl dX7_codeRing_32 ?_
      rcases i32_t2 b1 b2 with rfl | rfl
      · skip
        refine aw_rS (As := [.int 5, .int 0]) (S := []) (v := some (.int 1)) (o2 := o) ct_X0_isLong_5_0 (mm_fit_of cbX0_isLong (by decide) (by decide)) wq725 wq310 rfl rfl (Nat.le_of_ble_eq_true rfl) (by decide) (by decide) rfl dX7_codeRing_33 ?_
        refine aw_if_eq (tgt := 43) (by decide) dX7_codeRing_36 (fun z => absurd z (by decide)) (fun _ => ?_)
        refine aw_iconst (v := 1) (by decide) dX7_codeRing_39 ?_
        refine aw_goto (tgt := 44) (by decide) dX7_codeRing_40 ?_
        exact aw_iret rfl (by decide) (by decide) dX7_codeRing_44 ⟨by first | rfl | decide | (simp [oI, tc_cr, b1, b2, show tc_n 5 = 2 by decide]; done) | (simp_all [oI, tc_cr, show tc_n 5 = 2 by decide]; done), rfl⟩
      · skip
        refine aw_rS (As := [.int 5, .int 1]) (S := []) (v := some (.int 0)) (o2 := o) ct_X0_isLong_5_1 (mm_fit_of cbX0_isLong (by decide) (by decide)) wq725 wq310 rfl rfl (Nat.le_of_ble_eq_true rfl) (by decide) (by decide) rfl dX7_codeRing_33 ?_
        refine aw_if_eq (tgt := 43) (by decide) dX7_codeRing_36 (fun _ => ?_) (fun z => absurd z (by decide))
        refine aw_iconst (v := 0) (by decide) dX7_codeRing_43 ?_
        exact aw_iret rfl (by decide) (by decide) dX7_codeRing_44 ⟨by first | rfl | decide | (simp [oI, tc_cr, b1, b2, show tc_n 5 = 2 by decide]; done) | (simp_all [oI, tc_cr, show tc_n 5 = 2 by decide]; done), rfl⟩
    · skip
      refine aw_iconst (v := (-1)) (by decide) dX7_codeRing_29 ?_
      exact aw_iret rfl (by decide) (by decide) dX7_codeRing_30 ⟨by first | rfl | decide | (simp [oI, tc_cr, b1, b2, show tc_n 5 = 2 by decide]; done) | (simp_all [oI, tc_cr, show tc_n 5 = 2 by decide]; done), rfl⟩
theorem ct_cring_6 {ad : Nat → Nat → Nat → Nat} {o : wd_S} {n m c : Nat} (V : vs o n m c) {k : Int32} : CT ad MX7_codeRing [.ref (ad 7 0 0), .int 6, .int k] o (OT (oI (tc_cr 6 k) o)) := by
  obtain ⟨G, Z, hk, hc⟩ := id V
  obtain ⟨g1, g2, g3, g4, g5, g6⟩ := id G
  refine CT.pi (fun hp => ?_)
  refine CT.of (L := [some (.ref (ad 7 0 0)), some (.int 6), some (.int k)]) rfl rfl (by decide) (Nat.le_of_ble_eq_true rfl) rfl ?_
  refine aw_iload_n (x := 6) rfl dX7_codeRing_0 ?_
  refine aw_rS (As := [.int 6]) (S := []) (v := some (.int (cs_isCode 6))) (o2 := o) ct_X0_isCode (mm_fit_of cbX0_isCode (by decide) (by decide)) wq483 wq484 rfl rfl (Nat.le_of_ble_eq_true rfl) (by decide) (by decide) rfl dX7_codeRing_1 ?_
  refine aw_if_ne (tgt := 17) (by decide) dX7_codeRing_4 (fun _ => ?_) (fun z => absurd z (by decide))
  refine aw_iload_n (x := k) rfl dX7_codeRing_17 ?_
  refine aw_if_lt (tgt := 29) (by decide) dX7_codeRing_18 (fun b1 => ?_) (fun b1 => ?_)
  · skip
    refine aw_iconst (v := (-1)) (by decide) dX7_codeRing_29 ?_
    exact aw_iret rfl (by decide) (by decide) dX7_codeRing_30 ⟨by first | rfl | decide | (simp [oI, tc_cr, b1, show tc_n 6 = 2 by decide]; done) | (simp_all [oI, tc_cr, show tc_n 6 = 2 by decide]; done), rfl⟩
  · skip
    refine aw_iload_n (x := k) rfl dX7_codeRing_21 ?_
    refine aw_iload_n (x := 6) rfl dX7_codeRing_22 ?_
    refine aw_rS (As := [.int 6]) (S := [.int k]) (v := some (.int 2)) (o2 := o) ct_X0_ringCount_6 (mm_fit_of cbX0_ringCount (by decide) (by decide)) wq724 wq304 rfl rfl (Nat.le_of_ble_eq_true rfl) (by decide) (by decide) rfl dX7_codeRing_23 ?_
    refine aw_icmp_lt (tgt := 31) (by decide) dX7_codeRing_26 (fun b2 => ?_) (fun b2 => ?_)
    · skip
      refine aw_iload_n (x := 6) rfl dX7_codeRing_31 ?_
      refine aw_iload_n (x := k) rfl dX7_codeRing_32 ?_
      rcases i32_t2 b1 b2 with rfl | rfl
      · skip
        refine aw_rS (As := [.int 6, .int 0]) (S := []) (v := some (.int 1)) (o2 := o) ct_X0_isLong_6_0 (mm_fit_of cbX0_isLong (by decide) (by decide)) wq725 wq310 rfl rfl (Nat.le_of_ble_eq_true rfl) (by decide) (by decide) rfl dX7_codeRing_33 ?_
        refine aw_if_eq (tgt := 43) (by decide) dX7_codeRing_36 (fun z => absurd z (by decide)) (fun _ => ?_)
        refine aw_iconst (v := 1) (by decide) dX7_codeRing_39 ?_
        refine aw_goto (tgt := 44) (by decide) dX7_codeRing_40 ?_
        exact aw_iret rfl (by decide) (by decide) dX7_codeRing_44 ⟨by first | rfl | decide | (simp [oI, tc_cr, b1, b2, show tc_n 6 = 2 by decide]; done) | (simp_all [oI, tc_cr, show tc_n 6 = 2 by decide]; done), rfl⟩
      · skip
        refine aw_rS (As := [.int 6, .int 1]) (S := []) (v := some (.int 1)) (o2 := o) ct_X0_isLong_6_1 (mm_fit_of cbX0_isLong (by decide) (by decide)) wq725 wq310 rfl rfl (Nat.le_of_ble_eq_true rfl) (by decide) (by decide) rfl dX7_codeRing_33 ?_
        refine aw_if_eq (tgt := 43) (by decide) dX7_codeRing_36 (fun z => absurd z (by decide)) (fun _ => ?_)
        refine aw_iconst (v := 1) (by decide) dX7_codeRing_39 ?_
        refine aw_goto (tgt := 44) (by decide) dX7_codeRing_40 ?_
        exact aw_iret rfl (by decide) (by decide) dX7_codeRing_44 ⟨by first | rfl | decide | (simp [oI, tc_cr, b1, b2, show tc_n 6 = 2 by decide]; done) | (simp_all [oI, tc_cr, show tc_n 6 = 2 by decide]; done), rfl⟩
    · skip
      refine aw_iconst (v := (-1)) (by decide) dX7_codeRing_29 ?_
      exact aw_iret rfl (by decide) (by decide) dX7_codeRing_30 ⟨by first | rfl | decide | (simp [oI, tc_cr, b1, b2, show tc_n 6 = 2 by decide]; done) | (simp_all [oI, tc_cr, show tc_n 6 = 2 by decide]; done), rfl⟩
theorem ct_cring_7 {ad : Nat → Nat → Nat → Nat} {o : wd_S} {n m c : Nat} (V : vs o n m c) {k : Int32} : CT ad MX7_codeRing [.ref (ad 7 0 0), .int 7, .int k] o (OT (oI (tc_cr 7 k) o)) := by
  obtain ⟨G, Z, hk, hc⟩ := id V
  obtain ⟨g1, g2, g3, g4, g5, g6⟩ := id G
  refine CT.pi (fun hp => ?_)
  refine CT.of (L := [some (.ref (ad 7 0 0)), some (.int 7), some (.int k)]) rfl rfl (by decide) (Nat.le_of_ble_eq_true rfl) rfl ?_
  refine aw_iload_n (x := 7) rfl dX7_codeRing_0 ?_
  refine aw_rS (As := [.int 7]) (S := []) (v := some (.int (cs_isCode 7))) (o2 := o) ct_X0_isCode (mm_fit_of cbX0_isCode (by decide) (by decide)) wq483 wq484 rfl rfl (Nat.le_of_ble_eq_true rfl) (by decide) (by decide) rfl dX7_codeRing_1 ?_
  refine aw_if_ne (tgt := 17) (by decide) dX7_codeRing_4 (fun _ => ?_) (fun z => absurd z (by decide))
  refine aw_iload_n (x := k) rfl dX7_codeRing_17 ?_
  refine aw_if_lt (tgt := 29) (by decide) dX7_codeRing_18 (fun b1 => ?_) (fun b1 => ?_)
  · skip
    refine aw_iconst (v := (-1)) (by decide) dX7_codeRing_29 ?_
    exact aw_iret rfl (by decide) (by decide) dX7_codeRing_30 ⟨by first | rfl | decide | (simp [oI, tc_cr, b1, show tc_n 7 = 3 by decide]; done) | (simp_all [oI, tc_cr, show tc_n 7 = 3 by decide]; done), rfl⟩
  · skip
    refine aw_iload_n (x := k) rfl dX7_codeRing_21 ?_
    refine aw_iload_n (x := 7) rfl dX7_codeRing_22 ?_
    refine aw_rS (As := [.int 7]) (S := [.int k]) (v := some (.int 3)) (o2 := o) ct_X0_ringCount_7 (mm_fit_of cbX0_ringCount (by decide) (by decide)) wq724 wq304 rfl rfl (Nat.le_of_ble_eq_true rfl) (by decide) (by decide) rfl dX7_codeRing_23 ?_
    refine aw_icmp_lt (tgt := 31) (by decide) dX7_codeRing_26 (fun b2 => ?_) (fun b2 => ?_)
    · skip
      refine aw_iload_n (x := 7) rfl dX7_codeRing_31 ?_
      refine aw_iload_n (x := k) rfl dX7_codeRing_32 ?_
      rcases i32_t3 b1 b2 with rfl | rfl | rfl
      · skip
        refine aw_rS (As := [.int 7, .int 0]) (S := []) (v := some (.int 0)) (o2 := o) ct_X0_isLong_7_0 (mm_fit_of cbX0_isLong (by decide) (by decide)) wq725 wq310 rfl rfl (Nat.le_of_ble_eq_true rfl) (by decide) (by decide) rfl dX7_codeRing_33 ?_
        refine aw_if_eq (tgt := 43) (by decide) dX7_codeRing_36 (fun _ => ?_) (fun z => absurd z (by decide))
        refine aw_iconst (v := 0) (by decide) dX7_codeRing_43 ?_
        exact aw_iret rfl (by decide) (by decide) dX7_codeRing_44 ⟨by first | rfl | decide | (simp [oI, tc_cr, b1, b2, show tc_n 7 = 3 by decide]; done) | (simp_all [oI, tc_cr, show tc_n 7 = 3 by decide]; done), rfl⟩
      · skip
        refine aw_rS (As := [.int 7, .int 1]) (S := []) (v := some (.int 0)) (o2 := o) ct_X0_isLong_7_1 (mm_fit_of cbX0_isLong (by decide) (by decide)) wq725 wq310 rfl rfl (Nat.le_of_ble_eq_true rfl) (by decide) (by decide) rfl dX7_codeRing_33 ?_
        refine aw_if_eq (tgt := 43) (by decide) dX7_codeRing_36 (fun _ => ?_) (fun z => absurd z (by decide))
        refine aw_iconst (v := 0) (by decide) dX7_codeRing_43 ?_
        exact aw_iret rfl (by decide) (by decide) dX7_codeRing_44 ⟨by first | rfl | decide | (simp [oI, tc_cr, b1, b2, show tc_n 7 = 3 by decide]; done) | (simp_all [oI, tc_cr, show tc_n 7 = 3 by decide]; done), rfl⟩
      · skip
        refine aw_rS (As := [.int 7, .int 2]) (S := []) (v := some (.int 0)) (o2 := o) ct_X0_isLong_7_2 (mm_fit_of cbX0_isLong (by decide) (by decide)) wq725 wq310 rfl rfl (Nat.le_of_ble_eq_true rfl) (by decide) (by decide) rfl dX7_codeRing_33 ?_
        refine aw_if_eq (tgt := 43) (by decide) dX7_codeRing_36 (fun _ => ?_) (fun z => absurd z (by decide))
        refine aw_iconst (v := 0) (by decide) dX7_codeRing_43 ?_
        exact aw_iret rfl (by decide) (by decide) dX7_codeRing_44 ⟨by first | rfl | decide | (simp [oI, tc_cr, b1, b2, show tc_n 7 = 3 by decide]; done) | (simp_all [oI, tc_cr, show tc_n 7 = 3 by decide]; done), rfl⟩
    · skip
      refine aw_iconst (v := (-1)) (by decide) dX7_codeRing_29 ?_
      exact aw_iret rfl (by decide) (by decide) dX7_codeRing_30 ⟨by first | rfl | decide | (simp [oI, tc_cr, b1, b2, show tc_n 7 = 3 by decide]; done) | (simp_all [oI, tc_cr, show tc_n 7 = 3 by decide]; done), rfl⟩
theorem ct_cring_8 {ad : Nat → Nat → Nat → Nat} {o : wd_S} {n m c : Nat} (V : vs o n m c) {k : Int32} : CT ad MX7_codeRing [.ref (ad 7 0 0), .int 8, .int k] o (OT (oI (tc_cr 8 k) o)) := by
  obtain ⟨G, Z, hk, hc⟩ := id V
  obtain ⟨g1, g2, g3, g4, g5, g6⟩ := id G
  refine CT.pi (fun hp => ?_)
  refine CT.of (L := [some (.ref (ad 7 0 0)), some (.int 8), some (.int k)]) rfl rfl (by decide) (Nat.le_of_ble_eq_true rfl) rfl ?_
  refine aw_iload_n (x := 8) rfl dX7_codeRing_0 ?_
  refine aw_rS (As := [.int 8]) (S := []) (v := some (.int (cs_isCode 8))) (o2 := o) ct_X0_isCode (mm_fit_of cbX0_isCode (by decide) (by decide)) wq483 wq484 rfl rfl (Nat.le_of_ble_eq_true rfl) (by decide) (by decide) rfl dX7_codeRing_1 ?_
  refine aw_if_ne (tgt := 17) (by decide) dX7_codeRing_4 (fun _ => ?_) (fun z => absurd z (by decide))
  refine aw_iload_n (x := k) rfl dX7_codeRing_17 ?_
  refine aw_if_lt (tgt := 29) (by decide) dX7_codeRing_18 (fun b1 => ?_) (fun b1 => ?_)
  · skip
    refine aw_iconst (v := (-1)) (by decide) dX7_codeRing_29 ?_
    exact aw_iret rfl (by decide) (by decide) dX7_codeRing_30 ⟨by first | rfl | decide | (simp [oI, tc_cr, b1, show tc_n 8 = 3 by decide]; done) | (simp_all [oI, tc_cr, show tc_n 8 = 3 by decide]; done), rfl⟩
  · skip
    refine aw_iload_n (x := k) rfl dX7_codeRing_21 ?_
    refine aw_iload_n (x := 8) rfl dX7_codeRing_22 ?_
    refine aw_rS (As := [.int 8]) (S := [.int k]) (v := some (.int 3)) (o2 := o) ct_X0_ringCount_8 (mm_fit_of cbX0_ringCount (by decide) (by decide)) wq724 wq304 rfl rfl (Nat.le_of_ble_eq_true rfl) (by decide) (by decide) rfl dX7_codeRing_23 ?_
    refine aw_icmp_lt (tgt := 31) (by decide) dX7_codeRing_26 (fun b2 => ?_) (fun b2 => ?_)
    · skip
      refine aw_iload_n (x := 8) rfl dX7_codeRing_31 ?_
      refine aw_iload_n (x := k) rfl dX7_codeRing_32 ?_
      rcases i32_t3 b1 b2 with rfl | rfl | rfl
      · skip
        refine aw_rS (As := [.int 8, .int 0]) (S := []) (v := some (.int 0)) (o2 := o) ct_X0_isLong_8_0 (mm_fit_of cbX0_isLong (by decide) (by decide)) wq725 wq310 rfl rfl (Nat.le_of_ble_eq_true rfl) (by decide) (by decide) rfl dX7_codeRing_33 ?_
        refine aw_if_eq (tgt := 43) (by decide) dX7_codeRing_36 (fun _ => ?_) (fun z => absurd z (by decide))
        refine aw_iconst (v := 0) (by decide) dX7_codeRing_43 ?_
        exact aw_iret rfl (by decide) (by decide) dX7_codeRing_44 ⟨by first | rfl | decide | (simp [oI, tc_cr, b1, b2, show tc_n 8 = 3 by decide]; done) | (simp_all [oI, tc_cr, show tc_n 8 = 3 by decide]; done), rfl⟩
      · skip
        refine aw_rS (As := [.int 8, .int 1]) (S := []) (v := some (.int 0)) (o2 := o) ct_X0_isLong_8_1 (mm_fit_of cbX0_isLong (by decide) (by decide)) wq725 wq310 rfl rfl (Nat.le_of_ble_eq_true rfl) (by decide) (by decide) rfl dX7_codeRing_33 ?_
        refine aw_if_eq (tgt := 43) (by decide) dX7_codeRing_36 (fun _ => ?_) (fun z => absurd z (by decide))
        refine aw_iconst (v := 0) (by decide) dX7_codeRing_43 ?_
        exact aw_iret rfl (by decide) (by decide) dX7_codeRing_44 ⟨by first | rfl | decide | (simp [oI, tc_cr, b1, b2, show tc_n 8 = 3 by decide]; done) | (simp_all [oI, tc_cr, show tc_n 8 = 3 by decide]; done), rfl⟩
      · skip
        refine aw_rS (As := [.int 8, .int 2]) (S := []) (v := some (.int 1)) (o2 := o) ct_X0_isLong_8_2 (mm_fit_of cbX0_isLong (by decide) (by decide)) wq725 wq310 rfl rfl (Nat.le_of_ble_eq_true rfl) (by decide) (by decide) rfl dX7_codeRing_33 ?_
        refine aw_if_eq (tgt := 43) (by decide) dX7_codeRing_36 (fun z => absurd z (by decide)) (fun _ => ?_)
        refine aw_iconst (v := 1) (by decide) dX7_codeRing_39 ?_
        refine aw_goto (tgt := 44) (by decide) dX7_codeRing_40 ?_
        exact aw_iret rfl (by decide) (by decide) dX7_codeRing_44 ⟨by first | rfl | decide | (simp [oI, tc_cr, b1, b2, show tc_n 8 = 3 by decide]; done) | (simp_all [oI, tc_cr, show tc_n 8 = 3 by decide]; done), rfl⟩
    · skip
      refine aw_iconst (v := (-1)) (by decide) dX7_codeRing_29 ?_
      exact aw_iret rfl (by decide) (by decide) dX7_codeRing_30 ⟨by first | rfl | decide | (simp [oI, tc_cr, b1, b2, show tc_n 8 = 3 by decide]; done) | (simp_all [oI, tc_cr, show tc_n 8 = 3 by decide]; done), rfl⟩
theorem ct_cring_9 {ad : Nat → Nat → Nat → Nat} {o : wd_S} {n m c : Nat} (V : vs o n m c) {k : Int32} : CT ad MX7_codeRing [.ref (ad 7 0 0), .int 9, .int k] o (OT (oI (tc_cr 9 k) o)) := by
  obtain ⟨G, Z, hk, hc⟩ := id V
  obtain ⟨g1, g2, g3, g4, g5, g6⟩ := id G
  refine CT.pi (fun hp => ?_)
  refine CT.of (L := [some (.ref (ad 7 0 0)), some (.int 9), some (.int k)]) rfl rfl (by decide) (Nat.le_of_ble_eq_true rfl) rfl ?_
  refine aw_iload_n (x := 9) rfl dX7_codeRing_0 ?_
  refine aw_rS (As := [.int 9]) (S := []) (v := some (.int (cs_isCode 9))) (o2 := o) ct_X0_isCode (mm_fit_of cbX0_isCode (by decide) (by decide)) wq483 wq484 rfl rfl (Nat.le_of_ble_eq_true rfl) (by decide) (by decide) rfl dX7_codeRing_1 ?_
  refine aw_if_ne (tgt := 17) (by decide) dX7_codeRing_4 (fun _ => ?_) (fun z => absurd z (by decide))
  refine aw_iload_n (x := k) rfl dX7_codeRing_17 ?_
  refine aw_if_lt (tgt := 29) (by decide) dX7_codeRing_18 (fun b1 => ?_) (fun b1 => ?_)
  · skip
    refine aw_iconst (v := (-1)) (by decide) dX7_codeRing_29 ?_
    exact aw_iret rfl (by decide) (by decide) dX7_codeRing_30 ⟨by first | rfl | decide | (simp [oI, tc_cr, b1, show tc_n 9 = 3 by decide]; done) | (simp_all [oI, tc_cr, show tc_n 9 = 3 by decide]; done), rfl⟩
  · skip
    refine aw_iload_n (x := k) rfl dX7_codeRing_21 ?_
    refine aw_iload_n (x := 9) rfl dX7_codeRing_22 ?_
    refine aw_rS (As := [.int 9]) (S := [.int k]) (v := some (.int 3)) (o2 := o) ct_X0_ringCount_9 (mm_fit_of cbX0_ringCount (by decide) (by decide)) wq724 wq304 rfl rfl (Nat.le_of_ble_eq_true rfl) (by decide) (by decide) rfl dX7_codeRing_23 ?_
    refine aw_icmp_lt (tgt := 31) (by decide) dX7_codeRing_26 (fun b2 => ?_) (fun b2 => ?_)
    · skip
      refine aw_iload_n (x := 9) rfl dX7_codeRing_31 ?_
      refine aw_iload_n (x := k) rfl dX7_codeRing_32 ?_
      rcases i32_t3 b1 b2 with rfl | rfl | rfl
      · skip
        refine aw_rS (As := [.int 9, .int 0]) (S := []) (v := some (.int 0)) (o2 := o) ct_X0_isLong_9_0 (mm_fit_of cbX0_isLong (by decide) (by decide)) wq725 wq310 rfl rfl (Nat.le_of_ble_eq_true rfl) (by decide) (by decide) rfl dX7_codeRing_33 ?_
        refine aw_if_eq (tgt := 43) (by decide) dX7_codeRing_36 (fun _ => ?_) (fun z => absurd z (by decide))
        refine aw_iconst (v := 0) (by decide) dX7_codeRing_43 ?_
        exact aw_iret rfl (by decide) (by decide) dX7_codeRing_44 ⟨by first | rfl | decide | (simp [oI, tc_cr, b1, b2, show tc_n 9 = 3 by decide]; done) | (simp_all [oI, tc_cr, show tc_n 9 = 3 by decide]; done), rfl⟩
      · skip
        refine aw_rS (As := [.int 9, .int 1]) (S := []) (v := some (.int 1)) (o2 := o) ct_X0_isLong_9_1 (mm_fit_of cbX0_isLong (by decide) (by decide)) wq725 wq310 rfl rfl (Nat.le_of_ble_eq_true rfl) (by decide) (by decide) rfl dX7_codeRing_33 ?_
        refine aw_if_eq (tgt := 43) (by decide) dX7_codeRing_36 (fun z => absurd z (by decide)) (fun _ => ?_)
        refine aw_iconst (v := 1) (by decide) dX7_codeRing_39 ?_
        refine aw_goto (tgt := 44) (by decide) dX7_codeRing_40 ?_
        exact aw_iret rfl (by decide) (by decide) dX7_codeRing_44 ⟨by first | rfl | decide | (simp [oI, tc_cr, b1, b2, show tc_n 9 = 3 by decide]; done) | (simp_all [oI, tc_cr, show tc_n 9 = 3 by decide]; done), rfl⟩
      · skip
        refine aw_rS (As := [.int 9, .int 2]) (S := []) (v := some (.int 0)) (o2 := o) ct_X0_isLong_9_2 (mm_fit_of cbX0_isLong (by decide) (by decide)) wq725 wq310 rfl rfl (Nat.le_of_ble_eq_true rfl) (by decide) (by decide) rfl dX7_codeRing_33 ?_
        refine aw_if_eq (tgt := 43) (by decide) dX7_codeRing_36 (fun _ => ?_) (fun z => absurd z (by decide))
        refine aw_iconst (v := 0) (by decide) dX7_codeRing_43 ?_
        exact aw_iret rfl (by decide) (by decide) dX7_codeRing_44 ⟨by first | rfl | decide | (simp [oI, tc_cr, b1, b2, show tc_n 9 = 3 by decide]; done) | (simp_all [oI, tc_cr, show tc_n 9 = 3 by decide]; done), rfl⟩
    · skip
      refine aw_iconst (v := (-1)) (by decide) dX7_codeRing_29 ?_
      exact aw_iret rfl (by decide) (by decide) dX7_codeRing_30 ⟨by first | rfl | decide | (simp [oI, tc_cr, b1, b2, show tc_n 9 = 3 by decide]; done) | (simp_all [oI, tc_cr, show tc_n 9 = 3 by decide]; done), rfl⟩
theorem ct_cring_10 {ad : Nat → Nat → Nat → Nat} {o : wd_S} {n m c : Nat} (V : vs o n m c) {k : Int32} : CT ad MX7_codeRing [.ref (ad 7 0 0), .int 10, .int k] o (OT (oI (tc_cr 10 k) o)) := by
  obtain ⟨G, Z, hk, hc⟩ := id V
  obtain ⟨g1, g2, g3, g4, g5, g6⟩ := id G
  refine CT.pi (fun hp => ?_)
  refine CT.of (L := [some (.ref (ad 7 0 0)), some (.int 10), some (.int k)]) rfl rfl (by decide) (Nat.le_of_ble_eq_true rfl) rfl ?_
  refine aw_iload_n (x := 10) rfl dX7_codeRing_0 ?_
  refine aw_rS (As := [.int 10]) (S := []) (v := some (.int (cs_isCode 10))) (o2 := o) ct_X0_isCode (mm_fit_of cbX0_isCode (by decide) (by decide)) wq483 wq484 rfl rfl (Nat.le_of_ble_eq_true rfl) (by decide) (by decide) rfl dX7_codeRing_1 ?_
  refine aw_if_ne (tgt := 17) (by decide) dX7_codeRing_4 (fun _ => ?_) (fun z => absurd z (by decide))
  refine aw_iload_n (x := k) rfl dX7_codeRing_17 ?_
  refine aw_if_lt (tgt := 29) (by decide) dX7_codeRing_18 (fun b1 => ?_) (fun b1 => ?_)
  · skip
    refine aw_iconst (v := (-1)) (by decide) dX7_codeRing_29 ?_
    exact aw_iret rfl (by decide) (by decide) dX7_codeRing_30 ⟨by first | rfl | decide | (simp [oI, tc_cr, b1, show tc_n 10 = 3 by decide]; done) | (simp_all [oI, tc_cr, show tc_n 10 = 3 by decide]; done), rfl⟩
  · skip
    refine aw_iload_n (x := k) rfl dX7_codeRing_21 ?_
    refine aw_iload_n (x := 10) rfl dX7_codeRing_22 ?_
    refine aw_rS (As := [.int 10]) (S := [.int k]) (v := some (.int 3)) (o2 := o) ct_X0_ringCount_10 (mm_fit_of cbX0_ringCount (by decide) (by decide)) wq724 wq304 rfl rfl (Nat.le_of_ble_eq_true rfl) (by decide) (by decide) rfl dX7_codeRing_23 ?_
    refine aw_icmp_lt (tgt := 31) (by decide) dX7_codeRing_26 (fun b2 => ?_) (fun b2 => ?_)
    · skip
      refine aw_iload_n (x := 10) rfl dX7_codeRing_31 ?_
      refine aw_iload_n (x := k) rfl dX7_codeRing_32 ?_
      rcases i32_t3 b1 b2 with rfl | rfl | rfl
      · skip
        refine aw_rS (As := [.int 10, .int 0]) (S := []) (v := some (.int 0)) (o2 := o) ct_X0_isLong_10_0 (mm_fit_of cbX0_isLong (by decide) (by decide)) wq725 wq310 rfl rfl (Nat.le_of_ble_eq_true rfl) (by decide) (by decide) rfl dX7_codeRing_33 ?_
        refine aw_if_eq (tgt := 43) (by decide) dX7_codeRing_36 (fun _ => ?_) (fun z => absurd z (by decide))
        refine aw_iconst (v := 0) (by decide) dX7_codeRing_43 ?_
        exact aw_iret rfl (by decide) (by decide) dX7_codeRing_44 ⟨by first | rfl | decide | (simp [oI, tc_cr, b1, b2, show tc_n 10 = 3 by decide]; done) | (simp_all [oI, tc_cr, show tc_n 10 = 3 by decide]; done), rfl⟩
      · skip
        refine aw_rS (As := [.int 10, .int 1]) (S := []) (v := some (.int 1)) (o2 := o) ct_X0_isLong_10_1 (mm_fit_of cbX0_isLong (by decide) (by decide)) wq725 wq310 rfl rfl (Nat.le_of_ble_eq_true rfl) (by decide) (by decide) rfl dX7_codeRing_33 ?_
        refine aw_if_eq (tgt := 43) (by decide) dX7_codeRing_36 (fun z => absurd z (by decide)) (fun _ => ?_)
        refine aw_iconst (v := 1) (by decide) dX7_codeRing_39 ?_
        refine aw_goto (tgt := 44) (by decide) dX7_codeRing_40 ?_
        exact aw_iret rfl (by decide) (by decide) dX7_codeRing_44 ⟨by first | rfl | decide | (simp [oI, tc_cr, b1, b2, show tc_n 10 = 3 by decide]; done) | (simp_all [oI, tc_cr, show tc_n 10 = 3 by decide]; done), rfl⟩
      · skip
        refine aw_rS (As := [.int 10, .int 2]) (S := []) (v := some (.int 1)) (o2 := o) ct_X0_isLong_10_2 (mm_fit_of cbX0_isLong (by decide) (by decide)) wq725 wq310 rfl rfl (Nat.le_of_ble_eq_true rfl) (by decide) (by decide) rfl dX7_codeRing_33 ?_
        refine aw_if_eq (tgt := 43) (by decide) dX7_codeRing_36 (fun z => absurd z (by decide)) (fun _ => ?_)
        refine aw_iconst (v := 1) (by decide) dX7_codeRing_39 ?_
        refine aw_goto (tgt := 44) (by decide) dX7_codeRing_40 ?_
        exact aw_iret rfl (by decide) (by decide) dX7_codeRing_44 ⟨by first | rfl | decide | (simp [oI, tc_cr, b1, b2, show tc_n 10 = 3 by decide]; done) | (simp_all [oI, tc_cr, show tc_n 10 = 3 by decide]; done), rfl⟩
    · skip
      refine aw_iconst (v := (-1)) (by decide) dX7_codeRing_29 ?_
      exact aw_iret rfl (by decide) (by decide) dX7_codeRing_30 ⟨by first | rfl | decide | (simp [oI, tc_cr, b1, b2, show tc_n 10 = 3 by decide]; done) | (simp_all [oI, tc_cr, show tc_n 10 = 3 by decide]; done), rfl⟩
theorem ct_cring_11 {ad : Nat → Nat → Nat → Nat} {o : wd_S} {n m c : Nat} (V : vs o n m c) {k : Int32} : CT ad MX7_codeRing [.ref (ad 7 0 0), .int 11, .int k] o (OT (oI (tc_cr 11 k) o)) := by
  obtain ⟨G, Z, hk, hc⟩ := id V
  obtain ⟨g1, g2, g3, g4, g5, g6⟩ := id G
  refine CT.pi (fun hp => ?_)
  refine CT.of (L := [some (.ref (ad 7 0 0)), some (.int 11), some (.int k)]) rfl rfl (by decide) (Nat.le_of_ble_eq_true rfl) rfl ?_
  refine aw_iload_n (x := 11) rfl dX7_codeRing_0 ?_
  refine aw_rS (As := [.int 11]) (S := []) (v := some (.int (cs_isCode 11))) (o2 := o) ct_X0_isCode (mm_fit_of cbX0_isCode (by decide) (by decide)) wq483 wq484 rfl rfl (Nat.le_of_ble_eq_true rfl) (by decide) (by decide) rfl dX7_codeRing_1 ?_
  refine aw_if_ne (tgt := 17) (by decide) dX7_codeRing_4 (fun _ => ?_) (fun z => absurd z (by decide))
  refine aw_iload_n (x := k) rfl dX7_codeRing_17 ?_
  refine aw_if_lt (tgt := 29) (by decide) dX7_codeRing_18 (fun b1 => ?_) (fun b1 => ?_)
  · skip
    refine aw_iconst (v := (-1)) (by decide) dX7_codeRing_29 ?_
    exact aw_iret rfl (by decide) (by decide) dX7_codeRing_30 ⟨by first | rfl | decide | (simp [oI, tc_cr, b1, show tc_n 11 = 3 by decide]; done) | (simp_all [oI, tc_cr, show tc_n 11 = 3 by decide]; done), rfl⟩
  · skip
    refine aw_iload_n (x := k) rfl dX7_codeRing_21 ?_
    refine aw_iload_n (x := 11) rfl dX7_codeRing_22 ?_
    refine aw_rS (As := [.int 11]) (S := [.int k]) (v := some (.int 3)) (o2 := o) ct_X0_ringCount_11 (mm_fit_of cbX0_ringCount (by decide) (by decide)) wq724 wq304 rfl rfl (Nat.le_of_ble_eq_true rfl) (by decide) (by decide) rfl dX7_codeRing_23 ?_
    refine aw_icmp_lt (tgt := 31) (by decide) dX7_codeRing_26 (fun b2 => ?_) (fun b2 => ?_)
    · skip
      refine aw_iload_n (x := 11) rfl dX7_codeRing_31 ?_
      refine aw_iload_n (x := k) rfl dX7_codeRing_32 ?_
      rcases i32_t3 b1 b2 with rfl | rfl | rfl
      · skip
        refine aw_rS (As := [.int 11, .int 0]) (S := []) (v := some (.int 1)) (o2 := o) ct_X0_isLong_11_0 (mm_fit_of cbX0_isLong (by decide) (by decide)) wq725 wq310 rfl rfl (Nat.le_of_ble_eq_true rfl) (by decide) (by decide) rfl dX7_codeRing_33 ?_
        refine aw_if_eq (tgt := 43) (by decide) dX7_codeRing_36 (fun z => absurd z (by decide)) (fun _ => ?_)
        refine aw_iconst (v := 1) (by decide) dX7_codeRing_39 ?_
        refine aw_goto (tgt := 44) (by decide) dX7_codeRing_40 ?_
        exact aw_iret rfl (by decide) (by decide) dX7_codeRing_44 ⟨by first | rfl | decide | (simp [oI, tc_cr, b1, b2, show tc_n 11 = 3 by decide]; done) | (simp_all [oI, tc_cr, show tc_n 11 = 3 by decide]; done), rfl⟩
      · skip
        refine aw_rS (As := [.int 11, .int 1]) (S := []) (v := some (.int 0)) (o2 := o) ct_X0_isLong_11_1 (mm_fit_of cbX0_isLong (by decide) (by decide)) wq725 wq310 rfl rfl (Nat.le_of_ble_eq_true rfl) (by decide) (by decide) rfl dX7_codeRing_33 ?_
        refine aw_if_eq (tgt := 43) (by decide) dX7_codeRing_36 (fun _ => ?_) (fun z => absurd z (by decide))
        refine aw_iconst (v := 0) (by decide) dX7_codeRing_43 ?_
        exact aw_iret rfl (by decide) (by decide) dX7_codeRing_44 ⟨by first | rfl | decide | (simp [oI, tc_cr, b1, b2, show tc_n 11 = 3 by decide]; done) | (simp_all [oI, tc_cr, show tc_n 11 = 3 by decide]; done), rfl⟩
      · skip
        refine aw_rS (As := [.int 11, .int 2]) (S := []) (v := some (.int 0)) (o2 := o) ct_X0_isLong_11_2 (mm_fit_of cbX0_isLong (by decide) (by decide)) wq725 wq310 rfl rfl (Nat.le_of_ble_eq_true rfl) (by decide) (by decide) rfl dX7_codeRing_33 ?_
        refine aw_if_eq (tgt := 43) (by decide) dX7_codeRing_36 (fun _ => ?_) (fun z => absurd z (by decide))
        refine aw_iconst (v := 0) (by decide) dX7_codeRing_43 ?_
        exact aw_iret rfl (by decide) (by decide) dX7_codeRing_44 ⟨by first | rfl | decide | (simp [oI, tc_cr, b1, b2, show tc_n 11 = 3 by decide]; done) | (simp_all [oI, tc_cr, show tc_n 11 = 3 by decide]; done), rfl⟩
    · skip
      refine aw_iconst (v := (-1)) (by decide) dX7_codeRing_29 ?_
      exact aw_iret rfl (by decide) (by decide) dX7_codeRing_30 ⟨by first | rfl | decide | (simp [oI, tc_cr, b1, b2, show tc_n 11 = 3 by decide]; done) | (simp_all [oI, tc_cr, show tc_n 11 = 3 by decide]; done), rfl⟩
theorem ct_cring_12 {ad : Nat → Nat → Nat → Nat} {o : wd_S} {n m c : Nat} (V : vs o n m c) {k : Int32} : CT ad MX7_codeRing [.ref (ad 7 0 0), .int 12, .int k] o (OT (oI (tc_cr 12 k) o)) := by
  obtain ⟨G, Z, hk, hc⟩ := id V
  obtain ⟨g1, g2, g3, g4, g5, g6⟩ := id G
  refine CT.pi (fun hp => ?_)
  refine CT.of (L := [some (.ref (ad 7 0 0)), some (.int 12), some (.int k)]) rfl rfl (by decide) (Nat.le_of_ble_eq_true rfl) rfl ?_
  refine aw_iload_n (x := 12) rfl dX7_codeRing_0 ?_
  refine aw_rS (As := [.int 12]) (S := []) (v := some (.int (cs_isCode 12))) (o2 := o) ct_X0_isCode (mm_fit_of cbX0_isCode (by decide) (by decide)) wq483 wq484 rfl rfl (Nat.le_of_ble_eq_true rfl) (by decide) (by decide) rfl dX7_codeRing_1 ?_
  refine aw_if_ne (tgt := 17) (by decide) dX7_codeRing_4 (fun _ => ?_) (fun z => absurd z (by decide))
  refine aw_iload_n (x := k) rfl dX7_codeRing_17 ?_
  refine aw_if_lt (tgt := 29) (by decide) dX7_codeRing_18 (fun b1 => ?_) (fun b1 => ?_)
  · skip
    refine aw_iconst (v := (-1)) (by decide) dX7_codeRing_29 ?_
    exact aw_iret rfl (by decide) (by decide) dX7_codeRing_30 ⟨by first | rfl | decide | (simp [oI, tc_cr, b1, show tc_n 12 = 3 by decide]; done) | (simp_all [oI, tc_cr, show tc_n 12 = 3 by decide]; done), rfl⟩
  · skip
    refine aw_iload_n (x := k) rfl dX7_codeRing_21 ?_
    refine aw_iload_n (x := 12) rfl dX7_codeRing_22 ?_
    refine aw_rS (As := [.int 12]) (S := [.int k]) (v := some (.int 3)) (o2 := o) ct_X0_ringCount_12 (mm_fit_of cbX0_ringCount (by decide) (by decide)) wq724 wq304 rfl rfl (Nat.le_of_ble_eq_true rfl) (by decide) (by decide) rfl dX7_codeRing_23 ?_
    refine aw_icmp_lt (tgt := 31) (by decide) dX7_codeRing_26 (fun b2 => ?_) (fun b2 => ?_)
    · skip
      refine aw_iload_n (x := 12) rfl dX7_codeRing_31 ?_
      refine aw_iload_n (x := k) rfl dX7_codeRing_32 ?_
      rcases i32_t3 b1 b2 with rfl | rfl | rfl
      · skip
        refine aw_rS (As := [.int 12, .int 0]) (S := []) (v := some (.int 1)) (o2 := o) ct_X0_isLong_12_0 (mm_fit_of cbX0_isLong (by decide) (by decide)) wq725 wq310 rfl rfl (Nat.le_of_ble_eq_true rfl) (by decide) (by decide) rfl dX7_codeRing_33 ?_
        refine aw_if_eq (tgt := 43) (by decide) dX7_codeRing_36 (fun z => absurd z (by decide)) (fun _ => ?_)
        refine aw_iconst (v := 1) (by decide) dX7_codeRing_39 ?_
        refine aw_goto (tgt := 44) (by decide) dX7_codeRing_40 ?_
        exact aw_iret rfl (by decide) (by decide) dX7_codeRing_44 ⟨by first | rfl | decide | (simp [oI, tc_cr, b1, b2, show tc_n 12 = 3 by decide]; done) | (simp_all [oI, tc_cr, show tc_n 12 = 3 by decide]; done), rfl⟩
      · skip
        refine aw_rS (As := [.int 12, .int 1]) (S := []) (v := some (.int 0)) (o2 := o) ct_X0_isLong_12_1 (mm_fit_of cbX0_isLong (by decide) (by decide)) wq725 wq310 rfl rfl (Nat.le_of_ble_eq_true rfl) (by decide) (by decide) rfl dX7_codeRing_33 ?_
        refine aw_if_eq (tgt := 43) (by decide) dX7_codeRing_36 (fun _ => ?_) (fun z => absurd z (by decide))
        refine aw_iconst (v := 0) (by decide) dX7_codeRing_43 ?_
        exact aw_iret rfl (by decide) (by decide) dX7_codeRing_44 ⟨by first | rfl | decide | (simp [oI, tc_cr, b1, b2, show tc_n 12 = 3 by decide]; done) | (simp_all [oI, tc_cr, show tc_n 12 = 3 by decide]; done), rfl⟩
      · skip
        refine aw_rS (As := [.int 12, .int 2]) (S := []) (v := some (.int 1)) (o2 := o) ct_X0_isLong_12_2 (mm_fit_of cbX0_isLong (by decide) (by decide)) wq725 wq310 rfl rfl (Nat.le_of_ble_eq_true rfl) (by decide) (by decide) rfl dX7_codeRing_33 ?_
        refine aw_if_eq (tgt := 43) (by decide) dX7_codeRing_36 (fun z => absurd z (by decide)) (fun _ => ?_)
        refine aw_iconst (v := 1) (by decide) dX7_codeRing_39 ?_
        refine aw_goto (tgt := 44) (by decide) dX7_codeRing_40 ?_
        exact aw_iret rfl (by decide) (by decide) dX7_codeRing_44 ⟨by first | rfl | decide | (simp [oI, tc_cr, b1, b2, show tc_n 12 = 3 by decide]; done) | (simp_all [oI, tc_cr, show tc_n 12 = 3 by decide]; done), rfl⟩
    · skip
      refine aw_iconst (v := (-1)) (by decide) dX7_codeRing_29 ?_
      exact aw_iret rfl (by decide) (by decide) dX7_codeRing_30 ⟨by first | rfl | decide | (simp [oI, tc_cr, b1, b2, show tc_n 12 = 3 by decide]; done) | (simp_all [oI, tc_cr, show tc_n 12 = 3 by decide]; done), rfl⟩
theorem ct_cring_13 {ad : Nat → Nat → Nat → Nat} {o : wd_S} {n m c : Nat} (V : vs o n m c) {k : Int32} : CT ad MX7_codeRing [.ref (ad 7 0 0), .int 13, .int k] o (OT (oI (tc_cr 13 k) o)) := by
  obtain ⟨G, Z, hk, hc⟩ := id V
  obtain ⟨g1, g2, g3, g4, g5, g6⟩ := id G
  refine CT.pi (fun hp => ?_)
  refine CT.of (L := [some (.ref (ad 7 0 0)), some (.int 13), some (.int k)]) rfl rfl (by decide) (Nat.le_of_ble_eq_true rfl) rfl ?_
  refine aw_iload_n (x := 13) rfl dX7_codeRing_0 ?_
  refine aw_rS (As := [.int 13]) (S := []) (v := some (.int (cs_isCode 13))) (o2 := o) ct_X0_isCode (mm_fit_of cbX0_isCode (by decide) (by decide)) wq483 wq484 rfl rfl (Nat.le_of_ble_eq_true rfl) (by decide) (by decide) rfl dX7_codeRing_1 ?_
  refine aw_if_ne (tgt := 17) (by decide) dX7_codeRing_4 (fun _ => ?_) (fun z => absurd z (by decide))
  refine aw_iload_n (x := k) rfl dX7_codeRing_17 ?_
  refine aw_if_lt (tgt := 29) (by decide) dX7_codeRing_18 (fun b1 => ?_) (fun b1 => ?_)
  · skip
    refine aw_iconst (v := (-1)) (by decide) dX7_codeRing_29 ?_
    exact aw_iret rfl (by decide) (by decide) dX7_codeRing_30 ⟨by first | rfl | decide | (simp [oI, tc_cr, b1, show tc_n 13 = 3 by decide]; done) | (simp_all [oI, tc_cr, show tc_n 13 = 3 by decide]; done), rfl⟩
  · skip
    refine aw_iload_n (x := k) rfl dX7_codeRing_21 ?_
    refine aw_iload_n (x := 13) rfl dX7_codeRing_22 ?_
    refine aw_rS (As := [.int 13]) (S := [.int k]) (v := some (.int 3)) (o2 := o) ct_X0_ringCount_13 (mm_fit_of cbX0_ringCount (by decide) (by decide)) wq724 wq304 rfl rfl (Nat.le_of_ble_eq_true rfl) (by decide) (by decide) rfl dX7_codeRing_23 ?_
    refine aw_icmp_lt (tgt := 31) (by decide) dX7_codeRing_26 (fun b2 => ?_) (fun b2 => ?_)
    · skip
      refine aw_iload_n (x := 13) rfl dX7_codeRing_31 ?_
      refine aw_iload_n (x := k) rfl dX7_codeRing_32 ?_
      rcases i32_t3 b1 b2 with rfl | rfl | rfl
      · skip
        refine aw_rS (As := [.int 13, .int 0]) (S := []) (v := some (.int 1)) (o2 := o) ct_X0_isLong_13_0 (mm_fit_of cbX0_isLong (by decide) (by decide)) wq725 wq310 rfl rfl (Nat.le_of_ble_eq_true rfl) (by decide) (by decide) rfl dX7_codeRing_33 ?_
        refine aw_if_eq (tgt := 43) (by decide) dX7_codeRing_36 (fun z => absurd z (by decide)) (fun _ => ?_)
        refine aw_iconst (v := 1) (by decide) dX7_codeRing_39 ?_
        refine aw_goto (tgt := 44) (by decide) dX7_codeRing_40 ?_
        exact aw_iret rfl (by decide) (by decide) dX7_codeRing_44 ⟨by first | rfl | decide | (simp [oI, tc_cr, b1, b2, show tc_n 13 = 3 by decide]; done) | (simp_all [oI, tc_cr, show tc_n 13 = 3 by decide]; done), rfl⟩
      · skip
        refine aw_rS (As := [.int 13, .int 1]) (S := []) (v := some (.int 1)) (o2 := o) ct_X0_isLong_13_1 (mm_fit_of cbX0_isLong (by decide) (by decide)) wq725 wq310 rfl rfl (Nat.le_of_ble_eq_true rfl) (by decide) (by decide) rfl dX7_codeRing_33 ?_
        refine aw_if_eq (tgt := 43) (by decide) dX7_codeRing_36 (fun z => absurd z (by decide)) (fun _ => ?_)
        refine aw_iconst (v := 1) (by decide) dX7_codeRing_39 ?_
        refine aw_goto (tgt := 44) (by decide) dX7_codeRing_40 ?_
        exact aw_iret rfl (by decide) (by decide) dX7_codeRing_44 ⟨by first | rfl | decide | (simp [oI, tc_cr, b1, b2, show tc_n 13 = 3 by decide]; done) | (simp_all [oI, tc_cr, show tc_n 13 = 3 by decide]; done), rfl⟩
      · skip
        refine aw_rS (As := [.int 13, .int 2]) (S := []) (v := some (.int 0)) (o2 := o) ct_X0_isLong_13_2 (mm_fit_of cbX0_isLong (by decide) (by decide)) wq725 wq310 rfl rfl (Nat.le_of_ble_eq_true rfl) (by decide) (by decide) rfl dX7_codeRing_33 ?_
        refine aw_if_eq (tgt := 43) (by decide) dX7_codeRing_36 (fun _ => ?_) (fun z => absurd z (by decide))
        refine aw_iconst (v := 0) (by decide) dX7_codeRing_43 ?_
        exact aw_iret rfl (by decide) (by decide) dX7_codeRing_44 ⟨by first | rfl | decide | (simp [oI, tc_cr, b1, b2, show tc_n 13 = 3 by decide]; done) | (simp_all [oI, tc_cr, show tc_n 13 = 3 by decide]; done), rfl⟩
    · skip
      refine aw_iconst (v := (-1)) (by decide) dX7_codeRing_29 ?_
      exact aw_iret rfl (by decide) (by decide) dX7_codeRing_30 ⟨by first | rfl | decide | (simp [oI, tc_cr, b1, b2, show tc_n 13 = 3 by decide]; done) | (simp_all [oI, tc_cr, show tc_n 13 = 3 by decide]; done), rfl⟩
theorem ct_cring_14 {ad : Nat → Nat → Nat → Nat} {o : wd_S} {n m c : Nat} (V : vs o n m c) {k : Int32} : CT ad MX7_codeRing [.ref (ad 7 0 0), .int 14, .int k] o (OT (oI (tc_cr 14 k) o)) := by
  obtain ⟨G, Z, hk, hc⟩ := id V
  obtain ⟨g1, g2, g3, g4, g5, g6⟩ := id G
  refine CT.pi (fun hp => ?_)
  refine CT.of (L := [some (.ref (ad 7 0 0)), some (.int 14), some (.int k)]) rfl rfl (by decide) (Nat.le_of_ble_eq_true rfl) rfl ?_
  refine aw_iload_n (x := 14) rfl dX7_codeRing_0 ?_
  refine aw_rS (As := [.int 14]) (S := []) (v := some (.int (cs_isCode 14))) (o2 := o) ct_X0_isCode (mm_fit_of cbX0_isCode (by decide) (by decide)) wq483 wq484 rfl rfl (Nat.le_of_ble_eq_true rfl) (by decide) (by decide) rfl dX7_codeRing_1 ?_
  refine aw_if_ne (tgt := 17) (by decide) dX7_codeRing_4 (fun _ => ?_) (fun z => absurd z (by decide))
  refine aw_iload_n (x := k) rfl dX7_codeRing_17 ?_
  refine aw_if_lt (tgt := 29) (by decide) dX7_codeRing_18 (fun b1 => ?_) (fun b1 => ?_)
  · skip
    refine aw_iconst (v := (-1)) (by decide) dX7_codeRing_29 ?_
    exact aw_iret rfl (by decide) (by decide) dX7_codeRing_30 ⟨by first | rfl | decide | (simp [oI, tc_cr, b1, show tc_n 14 = 3 by decide]; done) | (simp_all [oI, tc_cr, show tc_n 14 = 3 by decide]; done), rfl⟩
  · skip
    refine aw_iload_n (x := k) rfl dX7_codeRing_21 ?_
    refine aw_iload_n (x := 14) rfl dX7_codeRing_22 ?_
    refine aw_rS (As := [.int 14]) (S := [.int k]) (v := some (.int 3)) (o2 := o) ct_X0_ringCount_14 (mm_fit_of cbX0_ringCount (by decide) (by decide)) wq724 wq304 rfl rfl (Nat.le_of_ble_eq_true rfl) (by decide) (by decide) rfl dX7_codeRing_23 ?_
    refine aw_icmp_lt (tgt := 31) (by decide) dX7_codeRing_26 (fun b2 => ?_) (fun b2 => ?_)
    · skip
      refine aw_iload_n (x := 14) rfl dX7_codeRing_31 ?_
      refine aw_iload_n (x := k) rfl dX7_codeRing_32 ?_
      rcases i32_t3 b1 b2 with rfl | rfl | rfl
      · skip
        refine aw_rS (As := [.int 14, .int 0]) (S := []) (v := some (.int 1)) (o2 := o) ct_X0_isLong_14_0 (mm_fit_of cbX0_isLong (by decide) (by decide)) wq725 wq310 rfl rfl (Nat.le_of_ble_eq_true rfl) (by decide) (by decide) rfl dX7_codeRing_33 ?_
        refine aw_if_eq (tgt := 43) (by decide) dX7_codeRing_36 (fun z => absurd z (by decide)) (fun _ => ?_)
        refine aw_iconst (v := 1) (by decide) dX7_codeRing_39 ?_
        refine aw_goto (tgt := 44) (by decide) dX7_codeRing_40 ?_
        exact aw_iret rfl (by decide) (by decide) dX7_codeRing_44 ⟨by first | rfl | decide | (simp [oI, tc_cr, b1, b2, show tc_n 14 = 3 by decide]; done) | (simp_all [oI, tc_cr, show tc_n 14 = 3 by decide]; done), rfl⟩
      · skip
        refine aw_rS (As := [.int 14, .int 1]) (S := []) (v := some (.int 1)) (o2 := o) ct_X0_isLong_14_1 (mm_fit_of cbX0_isLong (by decide) (by decide)) wq725 wq310 rfl rfl (Nat.le_of_ble_eq_true rfl) (by decide) (by decide) rfl dX7_codeRing_33 ?_
        refine aw_if_eq (tgt := 43) (by decide) dX7_codeRing_36 (fun z => absurd z (by decide)) (fun _ => ?_)
        refine aw_iconst (v := 1) (by decide) dX7_codeRing_39 ?_
        refine aw_goto (tgt := 44) (by decide) dX7_codeRing_40 ?_
        exact aw_iret rfl (by decide) (by decide) dX7_codeRing_44 ⟨by first | rfl | decide | (simp [oI, tc_cr, b1, b2, show tc_n 14 = 3 by decide]; done) | (simp_all [oI, tc_cr, show tc_n 14 = 3 by decide]; done), rfl⟩
      · skip
        refine aw_rS (As := [.int 14, .int 2]) (S := []) (v := some (.int 1)) (o2 := o) ct_X0_isLong_14_2 (mm_fit_of cbX0_isLong (by decide) (by decide)) wq725 wq310 rfl rfl (Nat.le_of_ble_eq_true rfl) (by decide) (by decide) rfl dX7_codeRing_33 ?_
        refine aw_if_eq (tgt := 43) (by decide) dX7_codeRing_36 (fun z => absurd z (by decide)) (fun _ => ?_)
        refine aw_iconst (v := 1) (by decide) dX7_codeRing_39 ?_
        refine aw_goto (tgt := 44) (by decide) dX7_codeRing_40 ?_
        exact aw_iret rfl (by decide) (by decide) dX7_codeRing_44 ⟨by first | rfl | decide | (simp [oI, tc_cr, b1, b2, show tc_n 14 = 3 by decide]; done) | (simp_all [oI, tc_cr, show tc_n 14 = 3 by decide]; done), rfl⟩
    · skip
      refine aw_iconst (v := (-1)) (by decide) dX7_codeRing_29 ?_
      exact aw_iret rfl (by decide) (by decide) dX7_codeRing_30 ⟨by first | rfl | decide | (simp [oI, tc_cr, b1, b2, show tc_n 14 = 3 by decide]; done) | (simp_all [oI, tc_cr, show tc_n 14 = 3 by decide]; done), rfl⟩
theorem ct_cring_bad {ad : Nat → Nat → Nat → Nat} {o : wd_S} {n m c : Nat} (V : vs o n m c) {x k : Int32} (hb : cs_isCode x = 0) : CT ad MX7_codeRing [.ref (ad 7 0 0), .int x, .int k] o (OT (oX eA o)) := by
  obtain ⟨G, Z, hk, hc⟩ := id V
  obtain ⟨g1, g2, g3, g4, g5, g6⟩ := id G
  refine CT.pi (fun hp => ?_)
  refine CT.of (L := [some (.ref (ad 7 0 0)), some (.int x), some (.int k)]) rfl rfl (by decide) (Nat.le_of_ble_eq_true rfl) rfl ?_
  refine aw_iload_n (x := x) rfl dX7_codeRing_0 ?_
  refine aw_rS (As := [.int x]) (S := []) (v := some (.int (cs_isCode x))) (o2 := o) ct_X0_isCode (mm_fit_of cbX0_isCode (by decide) (by decide)) wq483 wq484 rfl rfl (Nat.le_of_ble_eq_true rfl) (by decide) (by decide) rfl dX7_codeRing_1 ?_
  refine aw_if_ne (tgt := 17) (by decide) dX7_codeRing_4 (fun z => absurd hb z) (fun _ => ?_)
  exact aw_throw th70_74 rfl (text := "code is out of range") (by decide) rfl dX7_codeRing_7 dX7_codeRing_10 dX7_codeRing_11 dX7_codeRing_13 dX7_codeRing_16 (by decide) (Nat.le_of_ble_eq_true rfl) (by decide) (by decide) ⟨by (first | with_reducible rfl | (simp [sv_0 hp hc, oI, oX, wd_w_row, row_self, row_row]; done) | (simp_all [sv_0 hp hc, oI, oX, wd_w_row, row_self, row_row]; done)), by (first | with_reducible rfl | (simp [sv_0 hp hc, oI, oX, wd_w_row, row_self, row_row]; done) | (simp_all [sv_0 hp hc, oI, oX, wd_w_row, row_self, row_row]; done))⟩
theorem ct_cring {ad : Nat → Nat → Nat → Nat} {o : wd_S} {n m c : Nat} (V : vs o n m c) {x k : Int32} (h : cs_isCode x ≠ 0) : CT ad MX7_codeRing [.ref (ad 7 0 0), .int x, .int k] o (OT (oI (tc_cr x k) o)) := by
  rcases tc_cases (isCode_rg h).1 (isCode_rg h).2 with rfl | rfl | rfl | rfl | rfl | rfl | rfl | rfl | rfl | rfl | rfl | rfl | rfl | rfl
  · exact ct_cring_1 V
  · exact ct_cring_2 V
  · exact ct_cring_3 V
  · exact ct_cring_4 V
  · exact ct_cring_5 V
  · exact ct_cring_6 V
  · exact ct_cring_7 V
  · exact ct_cring_8 V
  · exact ct_cring_9 V
  · exact ct_cring_10 V
  · exact ct_cring_11 V
  · exact ct_cring_12 V
  · exact ct_cring_13 V
  · exact ct_cring_14 V
