/-! PartyLines: its public methods -/
theorem sv_0 {o : wd_S} {c : Nat} (hp : ∀ q, q < 4 → 1 ≤ o.2.1 q ∧ o.2.1 q < 5) (hc : c ≤ 4) : (cs_sv o c).1 0 = o.1 0 := by
  unfold cs_sv
  split
  · rename_i h
    have := hp c h
    simp only [cs_save, wd_w_row]
    rw [row_ne _ _ (by omega), row_ne _ _ (by omega)]
  · have := drop_pi hp 3 (by decide)
    simp only [cs_save, wd_w_row]
    rw [row_ne _ _ (by omega), row_ne _ _ (by omega)]
    simp only [cs_drop, wd_w_row]
    rw [row_ne _ _ (by omega)]
    rfl
theorem n5_of {n : Nat} (hn : n ≤ 5) (h : nI n < 5) : n < 5 := (nI_ltI (b := 5) (by omega) (by decide)).1 h
theorem m16_of {m : Nat} (hm : m ≤ 16) (h : ¬ nI m ≥ 16) : m < 16 := by
  have : ¬ m = 16 := fun e => h (by subst e; decide)
  omega
def cs_set (B : Nat → Int32) (s : Nat) (w v : Int32) : Nat → Int32 := if w = 0 then upd B (101 + 8 * s + 3) v else if w = 1 then upd B (101 + 8 * s + 4) (if v = 1 then 1 else 0) else upd B (101 + 8 * s + 5) v
theorem setb_rg {w v : Int32} (h : cs_setb w v ≠ 0) : ¬ w < 0 ∧ ¬ w ≥ 8 := by
  by_cases h0 : w = 0
  · subst h0; decide
  · by_cases h1 : w = 1
    · subst h1; decide
    · by_cases h2 : w = 2
      · subst h2; decide
      · exact absurd (by simp [cs_setb, h0, h1, h2]) h
theorem isCode_rg {c : Int32} (h : cs_isCode c ≠ 0) : 1 ≤ c ∧ c ≤ 14 := by
  unfold cs_isCode at h
  by_cases h1 : c < 1
  · rw [if_pos h1] at h; exact absurd rfl h
  · rw [if_neg h1] at h
    by_cases h2 : c > 14
    · rw [if_pos h2] at h; exact absurd rfl h
    · exact ⟨Int32.not_lt.mp h1, Int32.not_lt.mp h2⟩
theorem span_rg {k : Int32} (h : cs_span k ≠ 0) : ∃ j, 1 ≤ j ∧ j ≤ 12 ∧ k = nI j := by
  unfold cs_span at h
  by_cases h1 : k < 1
  · rw [if_pos h1] at h; exact absurd rfl h
  · rw [if_neg h1] at h
    by_cases h2 : k > 12
    · rw [if_pos h2] at h; exact absurd rfl h
    · have e1 : (1 : Int32).toInt = 1 := by decide
      have e0 : (0 : Int32).toInt = 0 := by decide
      have h0 : ¬ k < 0 := fun h => h1 (by rw [Int32.lt_iff_toInt_lt] at h ⊢; omega)
      obtain ⟨j, hj, rfl⟩ := nI_of2 (M := 12) (n := 12) (by decide) h0 (Int32.not_lt.mp h2)
      refine ⟨j, ?_, hj, rfl⟩
      rcases Nat.eq_zero_or_pos j with rfl | h
      · exact absurd (show nI 0 < 1 by decide) h1
      · exact h
theorem span_1 {j : Nat} (h1 : 1 ≤ j) (h2 : j ≤ 12) : cs_span (nI j) = 1 := by
  unfold cs_span
  rw [if_neg (show ¬ nI j < 1 from nI_nlt (b := 1) h1 (by omega)), if_neg (show ¬ nI j > 12 from nI_nlt (a := 12) h2 (by decide))]
def cf_addLoop (o : wd_S) (n c : Nat) : Out := if nI n < 5 then oI (nI n) (wd_row (cs_sv o c) 0 (cs_open (o.1 0) n)) else oX eS o
theorem ct_addLoop {ad : Nat → Nat → Nat → Nat} {o : wd_S} {n m c : Nat} (V : vs o n m c)  : CT ad MX7_addLoop [.ref (ad 7 0 0)] o (OT (cf_addLoop o n c)) := by
  obtain ⟨G, Z, hk, hc⟩ := id V
  obtain ⟨g1, g2, g3, g4, g5, g6⟩ := id G
  refine CT.pi (fun hp => ?_)
  refine CT.of (L := [some (.ref (ad 7 0 0))]) rfl rfl (by decide) (Nat.le_of_ble_eq_true rfl) rfl ?_
  refine aw_aload_n (x := ad 7 0 0) rfl dX7_addLoop_0 ?_
  refine aw_getr (q := (0, 0, 0)) wv7 rfl flX7_10 rfl rfl dX7_addLoop_1 ?_
  refine aw_geti (q := (0, 0)) (x := nI n) (wv0 (by decide)) rfl g1 flX7_39 rfl (Or.inl rfl) dX7_addLoop_4 ?_
  refine aw_iconst (v := 5) (by decide) dX7_addLoop_7 ?_
  refine aw_icmp_lt (tgt := 21) (by decide) dX7_addLoop_8 (fun b1 => ?_) (fun b1 => ?_)
  · skip
    refine aw_aload_n (x := ad 7 0 0) rfl dX7_addLoop_21 ?_
    refine aw_getr (q := (9, 0, 0)) wv7 rfl flX7_28 rfl rfl dX7_addLoop_22 ?_
    refine aw_aload_n (x := ad 7 0 0) rfl dX7_addLoop_25 ?_
    refine aw_getr (q := (0, 0, 0)) wv7 rfl flX7_10 rfl rfl dX7_addLoop_26 ?_
    refine aw_rV (As := [.ref (ad 0 0 0)]) (S := []) (v := none) (o2 := (cs_sv o c)) (ct_X2_save G hk hc Z) (mm_fit_of cbX2_save (by decide) (by decide)) wq423 cvX2_save wv9 rfl rfl rfl (Nat.le_of_ble_eq_true rfl) (by decide) (by decide) rfl dX7_addLoop_29 ?_
    obtain ⟨o1, ho1⟩ : ∃ z, z = (cs_sv o c) := ⟨_, rfl⟩
    rw [← ho1]
    have Go1 : cg (o1.1 0) n m := by rw [ho1]; rw [sv_0 hp hc]; exact G
    refine aw_aload_n (x := ad 7 0 0) rfl dX7_addLoop_32 ?_
    refine aw_getr (q := (0, 0, 0)) wv7 rfl flX7_10 rfl rfl dX7_addLoop_33 ?_
    refine aw_rV (As := []) (S := []) (v := some (.int (nI n))) (o2 := (wd_row o1 0 (cs_open (o1.1 0) n))) (ct_X5_openLoop Go1.1 (n5_of g2 b1)) (mm_fit_of cbX5_openLoop (by decide) (by decide)) wq447 cvX5_openLoop (wv0 (by decide)) rfl rfl rfl (Nat.le_of_ble_eq_true rfl) (by decide) (by decide) rfl dX7_addLoop_36 ?_
    exact aw_iret rfl (by decide) (by decide) dX7_addLoop_39 ⟨by (subst ho1; first | with_reducible rfl | (simp [cf_addLoop, sv_0 hp hc, oI, oX, wd_w_row, row_self, row_row, b1]; done) | (simp_all [cf_addLoop, sv_0 hp hc, oI, oX, wd_w_row, row_self, row_row, b1]; done)), by (subst ho1; first | with_reducible rfl | (simp [cf_addLoop, sv_0 hp hc, oI, oX, wd_w_row, row_self, row_row, b1]; done) | (simp_all [cf_addLoop, sv_0 hp hc, oI, oX, wd_w_row, row_self, row_row, b1]; done))⟩
  · skip
    exact aw_throw th43_47 rfl (text := "there are 5 loops") (by decide) rfl dX7_addLoop_11 dX7_addLoop_14 dX7_addLoop_15 dX7_addLoop_17 dX7_addLoop_20 (by decide) (Nat.le_of_ble_eq_true rfl) (by decide) (by decide) ⟨by (first | with_reducible rfl | (simp [cf_addLoop, sv_0 hp hc, oI, oX, wd_w_row, row_self, row_row, b1]; done) | (simp_all [cf_addLoop, sv_0 hp hc, oI, oX, wd_w_row, row_self, row_row, b1]; done)), by (first | with_reducible rfl | (simp [cf_addLoop, sv_0 hp hc, oI, oX, wd_w_row, row_self, row_row, b1]; done) | (simp_all [cf_addLoop, sv_0 hp hc, oI, oX, wd_w_row, row_self, row_row, b1]; done))⟩
def cf_addSub (o : wd_S) (n m c : Nat) (x p q : Int32) : Out := match lk n x with
  | none => oX eI o
  | some l => if cs_span p = 0 then oX eA o else if cs_isCode q = 0 then oX eA o else if nI m ≥ 16 then oX eS o else if cs_hasC (o.1 0) m l q (-1) = 0 then oI (nI m) (wd_row (cs_sv o c) 0 (cs_enroll (o.1 0) m l p q)) else oX eS o
theorem ct_addSub {ad : Nat → Nat → Nat → Nat} {o : wd_S} {n m c : Nat} (V : vs o n m c) {x p q : Int32} : CT ad MX7_addSubscriber [.ref (ad 7 0 0), .int x, .int p, .int q] o (OT (cf_addSub o n m c x p q)) := by
  obtain ⟨G, Z, hk, hc⟩ := id V
  obtain ⟨g1, g2, g3, g4, g5, g6⟩ := id G
  refine CT.pi (fun hp => ?_)
  refine CT.of (L := [some (.ref (ad 7 0 0)), some (.int x), some (.int p), some (.int q), none]) rfl rfl (by decide) (Nat.le_of_ble_eq_true rfl) rfl ?_
  refine aw_aload_n (x := ad 7 0 0) rfl dX7_addSubscriber_0 ?_
  refine aw_iload_n (x := x) rfl dX7_addSubscriber_1 ?_
  rcases k0 : lk n x with _ | l
  · skip
    exact aw_xV (As := [.int x]) (S := []) (ct_X7_knownLoop_none G k0) (mm_fit_of cbX7_knownLoop (by decide) (by decide)) wq460 cvX7_knownLoop wv7 rfl rfl rfl (Nat.le_of_ble_eq_true rfl) (by decide) (by decide) rfl dX7_addSubscriber_2 ⟨by (first | with_reducible rfl | (simp [cf_addSub, sv_0 hp hc, oI, oX, wd_w_row, row_self, row_row, k0]; done) | (simp_all [cf_addSub, sv_0 hp hc, oI, oX, wd_w_row, row_self, row_row, k0]; done)), by (first | with_reducible rfl | (simp [cf_addSub, sv_0 hp hc, oI, oX, wd_w_row, row_self, row_row, k0]; done) | (simp_all [cf_addSub, sv_0 hp hc, oI, oX, wd_w_row, row_self, row_row, k0]; done))⟩
  · skip
    have hl := (lk_some k0).2
    have hl5 : l < 5 := by omega
    refine aw_rV (As := [.int x]) (S := []) (v := some (.ref (ad 1 0 l))) (o2 := o) (ct_X7_knownLoop_some G k0) (mm_fit_of cbX7_knownLoop (by decide) (by decide)) wq460 cvX7_knownLoop wv7 rfl rfl rfl (Nat.le_of_ble_eq_true rfl) (by decide) (by decide) rfl dX7_addSubscriber_2 ?_
    refine aw_astore (L2 := [some (.ref (ad 7 0 0)), some (.int x), some (.int p), some (.int q), some (.ref (ad 1 0 l))]) (by decide) rfl rfl dX7_addSubscriber_5 ?_
    refine aw_iload_n (x := p) rfl dX7_addSubscriber_7 ?_
    refine aw_rS (As := [.int p]) (S := []) (v := some (.int (cs_span p))) (o2 := o) ct_X7_isSpan (mm_fit_of cbX7_isSpan (by decide) (by decide)) wq480 wq481 rfl rfl (Nat.le_of_ble_eq_true rfl) (by decide) (by decide) rfl dX7_addSubscriber_8 ?_
    refine aw_if_eq (tgt := 21) (by decide) dX7_addSubscriber_11 (fun b1 => ?_) (fun b1 => ?_)
    · skip
      exact aw_throw th70_74 rfl (text := "position or code is out of range") (by decide) rfl dX7_addSubscriber_21 dX7_addSubscriber_24 dX7_addSubscriber_25 dX7_addSubscriber_27 dX7_addSubscriber_30 (by decide) (Nat.le_of_ble_eq_true rfl) (by decide) (by decide) ⟨by (first | with_reducible rfl | (simp [cf_addSub, sv_0 hp hc, oI, oX, wd_w_row, row_self, row_row, k0, b1]; done) | (simp_all [cf_addSub, sv_0 hp hc, oI, oX, wd_w_row, row_self, row_row, k0, b1]; done)), by (first | with_reducible rfl | (simp [cf_addSub, sv_0 hp hc, oI, oX, wd_w_row, row_self, row_row, k0, b1]; done) | (simp_all [cf_addSub, sv_0 hp hc, oI, oX, wd_w_row, row_self, row_row, k0, b1]; done))⟩
    · skip
      refine aw_iload_n (x := q) rfl dX7_addSubscriber_14 ?_
      refine aw_rS (As := [.int q]) (S := []) (v := some (.int (cs_isCode q))) (o2 := o) ct_X0_isCode (mm_fit_of cbX0_isCode (by decide) (by decide)) wq483 wq484 rfl rfl (Nat.le_of_ble_eq_true rfl) (by decide) (by decide) rfl dX7_addSubscriber_15 ?_
      refine aw_if_ne (tgt := 31) (by decide) dX7_addSubscriber_18 (fun b2 => ?_) (fun b2 => ?_)
      · skip
        refine aw_aload_n (x := ad 7 0 0) rfl dX7_addSubscriber_31 ?_
        refine aw_getr (q := (0, 0, 0)) wv7 rfl flX7_10 rfl rfl dX7_addSubscriber_32 ?_
        refine aw_geti (q := (0, 101)) (x := nI m) (wv0 (by decide)) rfl g3 flX7_75 rfl (Or.inl rfl) dX7_addSubscriber_35 ?_
        refine aw_bipush (v := 16) (by decide) dX7_addSubscriber_38 ?_
        refine aw_icmp_ge (tgt := 57) (by decide) dX7_addSubscriber_40 (fun b3 => ?_) (fun b3 => ?_)
        · skip
          exact aw_throw th43_47 rfl (text := "no room, or the code is taken") (by decide) rfl dX7_addSubscriber_57 dX7_addSubscriber_60 dX7_addSubscriber_61 dX7_addSubscriber_63 dX7_addSubscriber_66 (by decide) (Nat.le_of_ble_eq_true rfl) (by decide) (by decide) ⟨by (first | with_reducible rfl | (simp [cf_addSub, sv_0 hp hc, oI, oX, wd_w_row, row_self, row_row, k0, b1, b2, b3]; done) | (simp_all [cf_addSub, sv_0 hp hc, oI, oX, wd_w_row, row_self, row_row, k0, b1, b2, b3]; done)), by (first | with_reducible rfl | (simp [cf_addSub, sv_0 hp hc, oI, oX, wd_w_row, row_self, row_row, k0, b1, b2, b3]; done) | (simp_all [cf_addSub, sv_0 hp hc, oI, oX, wd_w_row, row_self, row_row, k0, b1, b2, b3]; done))⟩
        · skip
          refine aw_aload_n (x := ad 7 0 0) rfl dX7_addSubscriber_43 ?_
          refine aw_getr (q := (0, 0, 0)) wv7 rfl flX7_10 rfl rfl dX7_addSubscriber_44 ?_
          refine aw_aload (x := ad 1 0 l) rfl dX7_addSubscriber_47 ?_
          refine aw_iload_n (x := q) rfl dX7_addSubscriber_49 ?_
          refine aw_iconst (v := (-1)) (by decide) dX7_addSubscriber_50 ?_
          refine aw_rV (As := [.ref (ad 1 0 l), .int q, .int (-1)]) (S := []) (v := some (.int (cs_hasC (o.1 0) m l q (-1)))) (o2 := o) (ct_X5_hasCode G hl5) (mm_fit_of cbX5_hasCode (by decide) (by decide)) wq502 cvX5_hasCode (wv0 (by decide)) rfl rfl rfl (Nat.le_of_ble_eq_true rfl) (by decide) (by decide) rfl dX7_addSubscriber_51 ?_
          refine aw_if_eq (tgt := 67) (by decide) dX7_addSubscriber_54 (fun b4 => ?_) (fun b4 => ?_)
          · skip
            refine aw_aload_n (x := ad 7 0 0) rfl dX7_addSubscriber_67 ?_
            refine aw_getr (q := (9, 0, 0)) wv7 rfl flX7_28 rfl rfl dX7_addSubscriber_68 ?_
            refine aw_aload_n (x := ad 7 0 0) rfl dX7_addSubscriber_71 ?_
            refine aw_getr (q := (0, 0, 0)) wv7 rfl flX7_10 rfl rfl dX7_addSubscriber_72 ?_
            refine aw_rV (As := [.ref (ad 0 0 0)]) (S := []) (v := none) (o2 := (cs_sv o c)) (ct_X2_save G hk hc Z) (mm_fit_of cbX2_save (by decide) (by decide)) wq423 cvX2_save wv9 rfl rfl rfl (Nat.le_of_ble_eq_true rfl) (by decide) (by decide) rfl dX7_addSubscriber_75 ?_
            obtain ⟨o1, ho1⟩ : ∃ z, z = (cs_sv o c) := ⟨_, rfl⟩
            rw [← ho1]
            have Go1 : cg (o1.1 0) n m := by rw [ho1]; rw [sv_0 hp hc]; exact G
            refine aw_aload_n (x := ad 7 0 0) rfl dX7_addSubscriber_78 ?_
            refine aw_getr (q := (0, 0, 0)) wv7 rfl flX7_10 rfl rfl dX7_addSubscriber_79 ?_
            refine aw_aload (x := ad 1 0 l) rfl dX7_addSubscriber_82 ?_
            refine aw_iload_n (x := p) rfl dX7_addSubscriber_84 ?_
            refine aw_iload_n (x := q) rfl dX7_addSubscriber_85 ?_
            refine aw_rV (As := [.ref (ad 1 0 l), .int p, .int q]) (S := []) (v := some (.int (nI m))) (o2 := (wd_row o1 0 (cs_enroll (o1.1 0) m l p q))) (ct_X5_enroll Go1.2.2.1 (m16_of g4 b3) hl5) (mm_fit_of cbX5_enroll (by decide) (by decide)) wq507 cvX5_enroll (wv0 (by decide)) rfl rfl rfl (Nat.le_of_ble_eq_true rfl) (by decide) (by decide) rfl dX7_addSubscriber_86 ?_
            exact aw_iret rfl (by decide) (by decide) dX7_addSubscriber_89 ⟨by (subst ho1; first | with_reducible rfl | (simp [cf_addSub, sv_0 hp hc, oI, oX, wd_w_row, row_self, row_row, k0, b1, b2, b3, b4]; done) | (simp_all [cf_addSub, sv_0 hp hc, oI, oX, wd_w_row, row_self, row_row, k0, b1, b2, b3, b4]; done)), by (subst ho1; first | with_reducible rfl | (simp [cf_addSub, sv_0 hp hc, oI, oX, wd_w_row, row_self, row_row, k0, b1, b2, b3, b4]; done) | (simp_all [cf_addSub, sv_0 hp hc, oI, oX, wd_w_row, row_self, row_row, k0, b1, b2, b3, b4]; done))⟩
          · skip
            exact aw_throw th43_47 rfl (text := "no room, or the code is taken") (by decide) rfl dX7_addSubscriber_57 dX7_addSubscriber_60 dX7_addSubscriber_61 dX7_addSubscriber_63 dX7_addSubscriber_66 (by decide) (Nat.le_of_ble_eq_true rfl) (by decide) (by decide) ⟨by (first | with_reducible rfl | (simp [cf_addSub, sv_0 hp hc, oI, oX, wd_w_row, row_self, row_row, k0, b1, b2, b3, b4]; done) | (simp_all [cf_addSub, sv_0 hp hc, oI, oX, wd_w_row, row_self, row_row, k0, b1, b2, b3, b4]; done)), by (first | with_reducible rfl | (simp [cf_addSub, sv_0 hp hc, oI, oX, wd_w_row, row_self, row_row, k0, b1, b2, b3, b4]; done) | (simp_all [cf_addSub, sv_0 hp hc, oI, oX, wd_w_row, row_self, row_row, k0, b1, b2, b3, b4]; done))⟩
      · skip
        exact aw_throw th70_74 rfl (text := "position or code is out of range") (by decide) rfl dX7_addSubscriber_21 dX7_addSubscriber_24 dX7_addSubscriber_25 dX7_addSubscriber_27 dX7_addSubscriber_30 (by decide) (Nat.le_of_ble_eq_true rfl) (by decide) (by decide) ⟨by (first | with_reducible rfl | (simp [cf_addSub, sv_0 hp hc, oI, oX, wd_w_row, row_self, row_row, k0, b1, b2]; done) | (simp_all [cf_addSub, sv_0 hp hc, oI, oX, wd_w_row, row_self, row_row, k0, b1, b2]; done)), by (first | with_reducible rfl | (simp [cf_addSub, sv_0 hp hc, oI, oX, wd_w_row, row_self, row_row, k0, b1, b2]; done) | (simp_all [cf_addSub, sv_0 hp hc, oI, oX, wd_w_row, row_self, row_row, k0, b1, b2]; done))⟩
def cf_set (o : wd_S) (n m c : Nat) (x w v : Int32) : Out := match lk m x with
  | none => oX eI o
  | some s => if cs_setb w v = 0 then oX eA o else if w = 0 ∧ cs_may (o.1 0) m (hm (o.1 0) s) s v = 0 then oX eS o else oI (cs_sval (o.1 0) (hm (o.1 0) s) s w) (wd_row (cs_sv o c) 0 (cs_set (o.1 0) s w v))
theorem ct_set {ad : Nat → Nat → Nat → Nat} {o : wd_S} {n m c : Nat} (V : vs o n m c) {x w v : Int32} : CT ad MX7_set [.ref (ad 7 0 0), .int x, .int w, .int v] o (OT (cf_set o n m c x w v)) := by
  obtain ⟨G, Z, hk, hc⟩ := id V
  obtain ⟨g1, g2, g3, g4, g5, g6⟩ := id G
  refine CT.pi (fun hp => ?_)
  refine CT.of (L := [some (.ref (ad 7 0 0)), some (.int x), some (.int w), some (.int v), none, none]) rfl rfl (by decide) (Nat.le_of_ble_eq_true rfl) rfl ?_
  refine aw_aload_n (x := ad 7 0 0) rfl dX7_set_0 ?_
  refine aw_iload_n (x := x) rfl dX7_set_1 ?_
  rcases k0 : lk m x with _ | s
  · skip
    exact aw_xV (As := [.int x]) (S := []) (ct_X7_knownSub_none G k0) (mm_fit_of cbX7_knownSubscriber (by decide) (by decide)) wq522 cvX7_knownSubscriber wv7 rfl rfl rfl (Nat.le_of_ble_eq_true rfl) (by decide) (by decide) rfl dX7_set_2 ⟨by (first | with_reducible rfl | (simp [cf_set, cs_set, sv_0 hp hc, oI, oX, wd_w_row, row_self, row_row, k0]; done) | (simp_all [cf_set, cs_set, sv_0 hp hc, oI, oX, wd_w_row, row_self, row_row, k0]; done)), by (first | with_reducible rfl | (simp [cf_set, cs_set, sv_0 hp hc, oI, oX, wd_w_row, row_self, row_row, k0]; done) | (simp_all [cf_set, cs_set, sv_0 hp hc, oI, oX, wd_w_row, row_self, row_row, k0]; done))⟩
  · skip
    have hs := (lk_some k0).2
    have hs16 : s < 16 := by omega
    obtain ⟨l, hl, hh⟩ := g5 s hs
    have hl5 : l < 5 := by omega
    have hme : hm (o.1 0) s = l := hm_of hh hl5
    refine aw_rV (As := [.int x]) (S := []) (v := some (.ref (ad 3 0 s))) (o2 := o) (ct_X7_knownSub_some G k0) (mm_fit_of cbX7_knownSubscriber (by decide) (by decide)) wq522 cvX7_knownSubscriber wv7 rfl rfl rfl (Nat.le_of_ble_eq_true rfl) (by decide) (by decide) rfl dX7_set_2 ?_
    refine aw_astore (L2 := [some (.ref (ad 7 0 0)), some (.int x), some (.int w), some (.int v), some (.ref (ad 3 0 s)), none]) (by decide) rfl rfl dX7_set_5 ?_
    refine aw_iload_n (x := w) rfl dX7_set_7 ?_
    refine aw_iload_n (x := v) rfl dX7_set_8 ?_
    refine aw_rS (As := [.int w, .int v]) (S := []) (v := some (.int (cs_setb w v))) (o2 := o) ct_X7_isSettable (mm_fit_of cbX7_isSettable (by decide) (by decide)) wq527 wq528 rfl rfl (Nat.le_of_ble_eq_true rfl) (by decide) (by decide) rfl dX7_set_9 ?_
    refine aw_if_ne (tgt := 25) (by decide) dX7_set_12 (fun b1 => ?_) (fun b1 => ?_)
    · skip
      refine aw_iload_n (x := w) rfl dX7_set_25 ?_
      refine aw_if_ne (tgt := 49) (by decide) dX7_set_26 (fun b2 => ?_) (fun b2 => ?_)
      · skip
        refine aw_aload_n (x := ad 7 0 0) rfl dX7_set_49 ?_
        refine aw_getr (q := (9, 0, 0)) wv7 rfl flX7_28 rfl rfl dX7_set_50 ?_
        refine aw_aload_n (x := ad 7 0 0) rfl dX7_set_53 ?_
        refine aw_getr (q := (0, 0, 0)) wv7 rfl flX7_10 rfl rfl dX7_set_54 ?_
        refine aw_rV (As := [.ref (ad 0 0 0)]) (S := []) (v := none) (o2 := (cs_sv o c)) (ct_X2_save G hk hc Z) (mm_fit_of cbX2_save (by decide) (by decide)) wq423 cvX2_save wv9 rfl rfl rfl (Nat.le_of_ble_eq_true rfl) (by decide) (by decide) rfl dX7_set_57 ?_
        obtain ⟨o1, ho1⟩ : ∃ z, z = (cs_sv o c) := ⟨_, rfl⟩
        rw [← ho1]
        have Go1 : cg (o1.1 0) n m := by rw [ho1]; rw [sv_0 hp hc]; exact G
        have hho1 : o1.1 0 (101 + 8 * s + 1) = nI l := by rw [ho1]; rw [sv_0 hp hc]; exact hh
        refine aw_aload_n (x := ad 7 0 0) rfl dX7_set_60 ?_
        refine aw_aload (x := ad 3 0 s) rfl dX7_set_61 ?_
        refine aw_iload_n (x := w) rfl dX7_set_63 ?_
        refine aw_rV (As := [.ref (ad 3 0 s), .int w]) (S := []) (v := some (.int (cs_sval (o1.1 0) l s w))) (o2 := o1) (ct_X7_sval Go1 hl hs hho1 (setb_rg b1).1 (setb_rg b1).2) (mm_fit_of cbX7_subscriberValue (by decide) (by decide)) wq322 cvX7_subscriberValue wv7 rfl rfl rfl (Nat.le_of_ble_eq_true rfl) (by decide) (by decide) rfl dX7_set_64 ?_
        refine aw_istore (L2 := [some (.ref (ad 7 0 0)), some (.int x), some (.int w), some (.int v), some (.ref (ad 3 0 s)), some (.int (cs_sval (o1.1 0) l s w))]) (by decide) rfl rfl dX7_set_67 ?_
        refine aw_iload_n (x := w) rfl dX7_set_69 ?_
        refine aw_if_ne (tgt := 82) (by decide) dX7_set_70 (fun _ => ?_) (fun z => absurd z b2)
        refine aw_iload_n (x := w) rfl dX7_set_82 ?_
        refine aw_iconst (v := 1) (by decide) dX7_set_83 ?_
        refine aw_icmp_ne (tgt := 105) (by decide) dX7_set_84 (fun b3 => ?_) (fun b3 => ?_)
        · skip
          refine aw_aload (x := ad 3 0 s) rfl dX7_set_105 ?_
          refine aw_iload_n (x := v) rfl dX7_set_107 ?_
          refine aw_puti (q := (0, 101 + 8 * s + 5)) (wv3 (by decide) hs16) rfl fwX7_117 rfl rfl dX7_set_108 ?_
          refine aw_iload (x := (cs_sval (o1.1 0) l s w)) rfl dX7_set_111 ?_
          exact aw_iret rfl (by decide) (by decide) dX7_set_113 ⟨by (subst ho1; first | with_reducible rfl | (simp [cf_set, cs_set, sv_0 hp hc, oI, oX, wd_w_row, row_self, row_row, k0, hme, b1, b2, b3]; done) | (simp_all [cf_set, cs_set, sv_0 hp hc, oI, oX, wd_w_row, row_self, row_row, k0, hme, b1, b2, b3]; done)), by (subst ho1; first | with_reducible rfl | (simp [cf_set, cs_set, sv_0 hp hc, oI, oX, wd_w_row, row_self, row_row, k0, hme, b1, b2, b3]; done) | (simp_all [cf_set, cs_set, sv_0 hp hc, oI, oX, wd_w_row, row_self, row_row, k0, hme, b1, b2, b3]; done))⟩
        · skip
          refine aw_aload (x := ad 3 0 s) rfl dX7_set_87 ?_
          refine aw_iload_n (x := v) rfl dX7_set_89 ?_
          refine aw_iconst (v := 1) (by decide) dX7_set_90 ?_
          refine aw_icmp_ne (tgt := 98) (by decide) dX7_set_91 (fun b4 => ?_) (fun b4 => ?_)
          · skip
            refine aw_iconst (v := 0) (by decide) dX7_set_98 ?_
            refine aw_putz (q := (0, 101 + 8 * s + 4)) (by decide) (wv3 (by decide) hs16) rfl fwX7_113 rfl rfl dX7_set_99 ?_
            refine aw_goto (tgt := 111) (by decide) dX7_set_102 ?_
            refine aw_iload (x := (cs_sval (o1.1 0) l s w)) rfl dX7_set_111 ?_
            exact aw_iret rfl (by decide) (by decide) dX7_set_113 ⟨by (subst ho1; first | with_reducible rfl | (simp [cf_set, cs_set, sv_0 hp hc, oI, oX, wd_w_row, row_self, row_row, k0, hme, b1, b2, b3, b4]; done) | (simp_all [cf_set, cs_set, sv_0 hp hc, oI, oX, wd_w_row, row_self, row_row, k0, hme, b1, b2, b3, b4]; done)), by (subst ho1; first | with_reducible rfl | (simp [cf_set, cs_set, sv_0 hp hc, oI, oX, wd_w_row, row_self, row_row, k0, hme, b1, b2, b3, b4]; done) | (simp_all [cf_set, cs_set, sv_0 hp hc, oI, oX, wd_w_row, row_self, row_row, k0, hme, b1, b2, b3, b4]; done))⟩
          · skip
            refine aw_iconst (v := 1) (by decide) dX7_set_94 ?_
            refine aw_goto (tgt := 99) (by decide) dX7_set_95 ?_
            refine aw_putz (q := (0, 101 + 8 * s + 4)) (by decide) (wv3 (by decide) hs16) rfl fwX7_113 rfl rfl dX7_set_99 ?_
            refine aw_goto (tgt := 111) (by decide) dX7_set_102 ?_
            refine aw_iload (x := (cs_sval (o1.1 0) l s w)) rfl dX7_set_111 ?_
            exact aw_iret rfl (by decide) (by decide) dX7_set_113 ⟨by (subst ho1; first | with_reducible rfl | (simp [cf_set, cs_set, sv_0 hp hc, oI, oX, wd_w_row, row_self, row_row, k0, hme, b1, b2, b3, b4]; done) | (simp_all [cf_set, cs_set, sv_0 hp hc, oI, oX, wd_w_row, row_self, row_row, k0, hme, b1, b2, b3, b4]; done)), by (subst ho1; first | with_reducible rfl | (simp [cf_set, cs_set, sv_0 hp hc, oI, oX, wd_w_row, row_self, row_row, k0, hme, b1, b2, b3, b4]; done) | (simp_all [cf_set, cs_set, sv_0 hp hc, oI, oX, wd_w_row, row_self, row_row, k0, hme, b1, b2, b3, b4]; done))⟩
      · skip
        refine aw_aload_n (x := ad 7 0 0) rfl dX7_set_29 ?_
        refine aw_aload (x := ad 3 0 s) rfl dX7_set_30 ?_
        refine aw_iload_n (x := v) rfl dX7_set_32 ?_
        refine aw_rV (As := [.ref (ad 3 0 s), .int v]) (S := []) (v := some (.int (cs_may (o.1 0) m l s v))) (o2 := o) (ct_X7_may G hl hs hh) (mm_fit_of cbX7_mayTakeCode (by decide) (by decide)) wq531 cvX7_mayTakeCode wv7 rfl rfl rfl (Nat.le_of_ble_eq_true rfl) (by decide) (by decide) rfl dX7_set_33 ?_
        refine aw_if_ne (tgt := 49) (by decide) dX7_set_36 (fun b5 => ?_) (fun b5 => ?_)
        · skip
          refine aw_aload_n (x := ad 7 0 0) rfl dX7_set_49 ?_
          refine aw_getr (q := (9, 0, 0)) wv7 rfl flX7_28 rfl rfl dX7_set_50 ?_
          refine aw_aload_n (x := ad 7 0 0) rfl dX7_set_53 ?_
          refine aw_getr (q := (0, 0, 0)) wv7 rfl flX7_10 rfl rfl dX7_set_54 ?_
          refine aw_rV (As := [.ref (ad 0 0 0)]) (S := []) (v := none) (o2 := (cs_sv o c)) (ct_X2_save G hk hc Z) (mm_fit_of cbX2_save (by decide) (by decide)) wq423 cvX2_save wv9 rfl rfl rfl (Nat.le_of_ble_eq_true rfl) (by decide) (by decide) rfl dX7_set_57 ?_
          obtain ⟨o2, ho2⟩ : ∃ z, z = (cs_sv o c) := ⟨_, rfl⟩
          rw [← ho2]
          have Go2 : cg (o2.1 0) n m := by rw [ho2]; rw [sv_0 hp hc]; exact G
          have hho2 : o2.1 0 (101 + 8 * s + 1) = nI l := by rw [ho2]; rw [sv_0 hp hc]; exact hh
          refine aw_aload_n (x := ad 7 0 0) rfl dX7_set_60 ?_
          refine aw_aload (x := ad 3 0 s) rfl dX7_set_61 ?_
          refine aw_iload_n (x := w) rfl dX7_set_63 ?_
          refine aw_rV (As := [.ref (ad 3 0 s), .int w]) (S := []) (v := some (.int (cs_sval (o2.1 0) l s w))) (o2 := o2) (ct_X7_sval Go2 hl hs hho2 (setb_rg b1).1 (setb_rg b1).2) (mm_fit_of cbX7_subscriberValue (by decide) (by decide)) wq322 cvX7_subscriberValue wv7 rfl rfl rfl (Nat.le_of_ble_eq_true rfl) (by decide) (by decide) rfl dX7_set_64 ?_
          refine aw_istore (L2 := [some (.ref (ad 7 0 0)), some (.int x), some (.int w), some (.int v), some (.ref (ad 3 0 s)), some (.int (cs_sval (o2.1 0) l s w))]) (by decide) rfl rfl dX7_set_67 ?_
          refine aw_iload_n (x := w) rfl dX7_set_69 ?_
          refine aw_if_ne (tgt := 82) (by decide) dX7_set_70 (fun z => absurd b2 z) (fun _ => ?_)
          refine aw_aload (x := ad 3 0 s) rfl dX7_set_73 ?_
          refine aw_iload_n (x := v) rfl dX7_set_75 ?_
          refine aw_puti (q := (0, 101 + 8 * s + 3)) (wv3 (by decide) hs16) rfl fwX7_108 rfl rfl dX7_set_76 ?_
          refine aw_goto (tgt := 111) (by decide) dX7_set_79 ?_
          refine aw_iload (x := (cs_sval (o2.1 0) l s w)) rfl dX7_set_111 ?_
          exact aw_iret rfl (by decide) (by decide) dX7_set_113 ⟨by (subst ho2; first | with_reducible rfl | (simp [cf_set, cs_set, sv_0 hp hc, oI, oX, wd_w_row, row_self, row_row, k0, hme, b1, b2, b5]; done) | (simp_all [cf_set, cs_set, sv_0 hp hc, oI, oX, wd_w_row, row_self, row_row, k0, hme, b1, b2, b5]; done)), by (subst ho2; first | with_reducible rfl | (simp [cf_set, cs_set, sv_0 hp hc, oI, oX, wd_w_row, row_self, row_row, k0, hme, b1, b2, b5]; done) | (simp_all [cf_set, cs_set, sv_0 hp hc, oI, oX, wd_w_row, row_self, row_row, k0, hme, b1, b2, b5]; done))⟩
        · skip
          exact aw_throw th43_47 rfl (text := "the code is taken, or codes of the loop are rung") (by decide) rfl dX7_set_39 dX7_set_42 dX7_set_43 dX7_set_45 dX7_set_48 (by decide) (Nat.le_of_ble_eq_true rfl) (by decide) (by decide) ⟨by (first | with_reducible rfl | (simp [cf_set, cs_set, sv_0 hp hc, oI, oX, wd_w_row, row_self, row_row, k0, hme, b1, b2, b5]; done) | (simp_all [cf_set, cs_set, sv_0 hp hc, oI, oX, wd_w_row, row_self, row_row, k0, hme, b1, b2, b5]; done)), by (first | with_reducible rfl | (simp [cf_set, cs_set, sv_0 hp hc, oI, oX, wd_w_row, row_self, row_row, k0, hme, b1, b2, b5]; done) | (simp_all [cf_set, cs_set, sv_0 hp hc, oI, oX, wd_w_row, row_self, row_row, k0, hme, b1, b2, b5]; done))⟩
    · skip
      exact aw_throw th70_74 rfl (text := "what or value is out of range") (by decide) rfl dX7_set_15 dX7_set_18 dX7_set_19 dX7_set_21 dX7_set_24 (by decide) (Nat.le_of_ble_eq_true rfl) (by decide) (by decide) ⟨by (first | with_reducible rfl | (simp [cf_set, cs_set, sv_0 hp hc, oI, oX, wd_w_row, row_self, row_row, k0, hme, b1]; done) | (simp_all [cf_set, cs_set, sv_0 hp hc, oI, oX, wd_w_row, row_self, row_row, k0, hme, b1]; done)), by (first | with_reducible rfl | (simp [cf_set, cs_set, sv_0 hp hc, oI, oX, wd_w_row, row_self, row_row, k0, hme, b1]; done) | (simp_all [cf_set, cs_set, sv_0 hp hc, oI, oX, wd_w_row, row_self, row_row, k0, hme, b1]; done))⟩
theorem ct_loops {ad : Nat → Nat → Nat → Nat} {o : wd_S} {n m c : Nat} (V : vs o n m c)  : CT ad MX7_loops [.ref (ad 7 0 0)] o (RT (some (.int (nI n))) o) := by
  obtain ⟨G, Z, hk, hc⟩ := id V
  obtain ⟨g1, g2, g3, g4, g5, g6⟩ := id G
  refine CT.pi (fun hp => ?_)
  refine CT.of (L := [some (.ref (ad 7 0 0))]) rfl rfl (by decide) (Nat.le_of_ble_eq_true rfl) rfl ?_
  refine aw_aload_n (x := ad 7 0 0) rfl dX7_loops_0 ?_
  refine aw_getr (q := (0, 0, 0)) wv7 rfl flX7_10 rfl rfl dX7_loops_1 ?_
  refine aw_geti (q := (0, 0)) (x := nI n) (wv0 (by decide)) rfl g1 flX7_39 rfl (Or.inl rfl) dX7_loops_4 ?_
  exact aw_iret rfl (by decide) (by decide) dX7_loops_7 ⟨by (first | with_reducible rfl | (simp [sv_0 hp hc, oI, oX, wd_w_row, row_self, row_row]; done) | (simp_all [sv_0 hp hc, oI, oX, wd_w_row, row_self, row_row]; done)), by (first | with_reducible rfl | (simp [sv_0 hp hc, oI, oX, wd_w_row, row_self, row_row]; done) | (simp_all [sv_0 hp hc, oI, oX, wd_w_row, row_self, row_row]; done))⟩
theorem ct_subscribers {ad : Nat → Nat → Nat → Nat} {o : wd_S} {n m c : Nat} (V : vs o n m c)  : CT ad MX7_subscribers [.ref (ad 7 0 0)] o (RT (some (.int (nI m))) o) := by
  obtain ⟨G, Z, hk, hc⟩ := id V
  obtain ⟨g1, g2, g3, g4, g5, g6⟩ := id G
  refine CT.pi (fun hp => ?_)
  refine CT.of (L := [some (.ref (ad 7 0 0))]) rfl rfl (by decide) (Nat.le_of_ble_eq_true rfl) rfl ?_
  refine aw_aload_n (x := ad 7 0 0) rfl dX7_subscribers_0 ?_
  refine aw_getr (q := (0, 0, 0)) wv7 rfl flX7_10 rfl rfl dX7_subscribers_1 ?_
  refine aw_geti (q := (0, 101)) (x := nI m) (wv0 (by decide)) rfl g3 flX7_75 rfl (Or.inl rfl) dX7_subscribers_4 ?_
  exact aw_iret rfl (by decide) (by decide) dX7_subscribers_7 ⟨by (first | with_reducible rfl | (simp [sv_0 hp hc, oI, oX, wd_w_row, row_self, row_row]; done) | (simp_all [sv_0 hp hc, oI, oX, wd_w_row, row_self, row_row]; done)), by (first | with_reducible rfl | (simp [sv_0 hp hc, oI, oX, wd_w_row, row_self, row_row]; done) | (simp_all [sv_0 hp hc, oI, oX, wd_w_row, row_self, row_row]; done))⟩
def cf_sub (o : wd_S) (n m : Nat) (x w : Int32) : Out := match lk m x with
  | none => oX eI o
  | some s => if w < 0 then oX eA o else if w < 8 then oI (cs_sval (o.1 0) (hm (o.1 0) s) s w) o else oX eA o
def cf_loop (o : wd_S) (n m : Nat) (x w : Int32) : Out := match lk n x with
  | none => oX eI o
  | some l => if w < 0 then oX eA o else if w < 9 then oI (cs_lval (o.1 0) m l w) o else oX eA o
theorem ct_sub {ad : Nat → Nat → Nat → Nat} {o : wd_S} {n m c : Nat} (V : vs o n m c) {x w : Int32} : CT ad MX7_subscriber [.ref (ad 7 0 0), .int x, .int w] o (OT (cf_sub o n m x w)) := by
  obtain ⟨G, Z, hk, hc⟩ := id V
  obtain ⟨g1, g2, g3, g4, g5, g6⟩ := id G
  refine CT.pi (fun hp => ?_)
  refine CT.of (L := [some (.ref (ad 7 0 0)), some (.int x), some (.int w), none]) rfl rfl (by decide) (Nat.le_of_ble_eq_true rfl) rfl ?_
  refine aw_aload_n (x := ad 7 0 0) rfl dX7_subscriber_0 ?_
  refine aw_iload_n (x := x) rfl dX7_subscriber_1 ?_
  rcases k0 : lk m x with _ | s
  · skip
    exact aw_xV (As := [.int x]) (S := []) (ct_X7_knownSub_none G k0) (mm_fit_of cbX7_knownSubscriber (by decide) (by decide)) wq522 cvX7_knownSubscriber wv7 rfl rfl rfl (Nat.le_of_ble_eq_true rfl) (by decide) (by decide) rfl dX7_subscriber_2 ⟨by (first | with_reducible rfl | (simp [cf_sub, sv_0 hp hc, oI, oX, wd_w_row, row_self, row_row, k0]; done) | (simp_all [cf_sub, sv_0 hp hc, oI, oX, wd_w_row, row_self, row_row, k0]; done)), by (first | with_reducible rfl | (simp [cf_sub, sv_0 hp hc, oI, oX, wd_w_row, row_self, row_row, k0]; done) | (simp_all [cf_sub, sv_0 hp hc, oI, oX, wd_w_row, row_self, row_row, k0]; done))⟩
  · skip
    have hs := (lk_some k0).2
    have hs16 : s < 16 := by omega
    obtain ⟨l, hl, hh⟩ := g5 s hs
    have hl5 : l < 5 := by omega
    have hme : hm (o.1 0) s = l := hm_of hh hl5
    refine aw_rV (As := [.int x]) (S := []) (v := some (.ref (ad 3 0 s))) (o2 := o) (ct_X7_knownSub_some G k0) (mm_fit_of cbX7_knownSubscriber (by decide) (by decide)) wq522 cvX7_knownSubscriber wv7 rfl rfl rfl (Nat.le_of_ble_eq_true rfl) (by decide) (by decide) rfl dX7_subscriber_2 ?_
    refine aw_astore_n (L2 := [some (.ref (ad 7 0 0)), some (.int x), some (.int w), some (.ref (ad 3 0 s))]) (by decide) rfl rfl dX7_subscriber_5 ?_
    refine aw_iload_n (x := w) rfl dX7_subscriber_6 ?_
    refine aw_if_lt (tgt := 16) (by decide) dX7_subscriber_7 (fun b1 => ?_) (fun b1 => ?_)
    · skip
      exact aw_throw th70_74 rfl (text := "what is out of range") (by decide) rfl dX7_subscriber_16 dX7_subscriber_19 dX7_subscriber_20 dX7_subscriber_22 dX7_subscriber_25 (by decide) (Nat.le_of_ble_eq_true rfl) (by decide) (by decide) ⟨by (first | with_reducible rfl | (simp [cf_sub, sv_0 hp hc, oI, oX, wd_w_row, row_self, row_row, k0, hme, b1]; done) | (simp_all [cf_sub, sv_0 hp hc, oI, oX, wd_w_row, row_self, row_row, k0, hme, b1]; done)), by (first | with_reducible rfl | (simp [cf_sub, sv_0 hp hc, oI, oX, wd_w_row, row_self, row_row, k0, hme, b1]; done) | (simp_all [cf_sub, sv_0 hp hc, oI, oX, wd_w_row, row_self, row_row, k0, hme, b1]; done))⟩
    · skip
      refine aw_iload_n (x := w) rfl dX7_subscriber_10 ?_
      refine aw_bipush (v := 8) (by decide) dX7_subscriber_11 ?_
      refine aw_icmp_lt (tgt := 26) (by decide) dX7_subscriber_13 (fun b2 => ?_) (fun b2 => ?_)
      · skip
        refine aw_aload_n (x := ad 7 0 0) rfl dX7_subscriber_26 ?_
        refine aw_aload_n (x := ad 3 0 s) rfl dX7_subscriber_27 ?_
        refine aw_iload_n (x := w) rfl dX7_subscriber_28 ?_
        refine aw_rV (As := [.ref (ad 3 0 s), .int w]) (S := []) (v := some (.int (cs_sval (o.1 0) l s w))) (o2 := o) (ct_X7_sval G hl hs hh b1 (Int32.not_le.mpr b2)) (mm_fit_of cbX7_subscriberValue (by decide) (by decide)) wq322 cvX7_subscriberValue wv7 rfl rfl rfl (Nat.le_of_ble_eq_true rfl) (by decide) (by decide) rfl dX7_subscriber_29 ?_
        exact aw_iret rfl (by decide) (by decide) dX7_subscriber_32 ⟨by (first | with_reducible rfl | (simp [cf_sub, sv_0 hp hc, oI, oX, wd_w_row, row_self, row_row, k0, hme, b1, b2]; done) | (simp_all [cf_sub, sv_0 hp hc, oI, oX, wd_w_row, row_self, row_row, k0, hme, b1, b2]; done)), by (first | with_reducible rfl | (simp [cf_sub, sv_0 hp hc, oI, oX, wd_w_row, row_self, row_row, k0, hme, b1, b2]; done) | (simp_all [cf_sub, sv_0 hp hc, oI, oX, wd_w_row, row_self, row_row, k0, hme, b1, b2]; done))⟩
      · skip
        exact aw_throw th70_74 rfl (text := "what is out of range") (by decide) rfl dX7_subscriber_16 dX7_subscriber_19 dX7_subscriber_20 dX7_subscriber_22 dX7_subscriber_25 (by decide) (Nat.le_of_ble_eq_true rfl) (by decide) (by decide) ⟨by (first | with_reducible rfl | (simp [cf_sub, sv_0 hp hc, oI, oX, wd_w_row, row_self, row_row, k0, hme, b1, b2]; done) | (simp_all [cf_sub, sv_0 hp hc, oI, oX, wd_w_row, row_self, row_row, k0, hme, b1, b2]; done)), by (first | with_reducible rfl | (simp [cf_sub, sv_0 hp hc, oI, oX, wd_w_row, row_self, row_row, k0, hme, b1, b2]; done) | (simp_all [cf_sub, sv_0 hp hc, oI, oX, wd_w_row, row_self, row_row, k0, hme, b1, b2]; done))⟩
theorem ct_loop {ad : Nat → Nat → Nat → Nat} {o : wd_S} {n m c : Nat} (V : vs o n m c) {x w : Int32} : CT ad MX7_loop [.ref (ad 7 0 0), .int x, .int w] o (OT (cf_loop o n m x w)) := by
  obtain ⟨G, Z, hk, hc⟩ := id V
  obtain ⟨g1, g2, g3, g4, g5, g6⟩ := id G
  refine CT.pi (fun hp => ?_)
  refine CT.of (L := [some (.ref (ad 7 0 0)), some (.int x), some (.int w), none]) rfl rfl (by decide) (Nat.le_of_ble_eq_true rfl) rfl ?_
  refine aw_aload_n (x := ad 7 0 0) rfl dX7_loop_0 ?_
  refine aw_iload_n (x := x) rfl dX7_loop_1 ?_
  rcases k0 : lk n x with _ | l
  · skip
    exact aw_xV (As := [.int x]) (S := []) (ct_X7_knownLoop_none G k0) (mm_fit_of cbX7_knownLoop (by decide) (by decide)) wq460 cvX7_knownLoop wv7 rfl rfl rfl (Nat.le_of_ble_eq_true rfl) (by decide) (by decide) rfl dX7_loop_2 ⟨by (first | with_reducible rfl | (simp [cf_loop, sv_0 hp hc, oI, oX, wd_w_row, row_self, row_row, k0]; done) | (simp_all [cf_loop, sv_0 hp hc, oI, oX, wd_w_row, row_self, row_row, k0]; done)), by (first | with_reducible rfl | (simp [cf_loop, sv_0 hp hc, oI, oX, wd_w_row, row_self, row_row, k0]; done) | (simp_all [cf_loop, sv_0 hp hc, oI, oX, wd_w_row, row_self, row_row, k0]; done))⟩
  · skip
    have hl := (lk_some k0).2
    have hl5 : l < 5 := by omega
    refine aw_rV (As := [.int x]) (S := []) (v := some (.ref (ad 1 0 l))) (o2 := o) (ct_X7_knownLoop_some G k0) (mm_fit_of cbX7_knownLoop (by decide) (by decide)) wq460 cvX7_knownLoop wv7 rfl rfl rfl (Nat.le_of_ble_eq_true rfl) (by decide) (by decide) rfl dX7_loop_2 ?_
    refine aw_astore_n (L2 := [some (.ref (ad 7 0 0)), some (.int x), some (.int w), some (.ref (ad 1 0 l))]) (by decide) rfl rfl dX7_loop_5 ?_
    refine aw_iload_n (x := w) rfl dX7_loop_6 ?_
    refine aw_if_lt (tgt := 16) (by decide) dX7_loop_7 (fun b1 => ?_) (fun b1 => ?_)
    · skip
      exact aw_throw th70_74 rfl (text := "what is out of range") (by decide) rfl dX7_loop_16 dX7_loop_19 dX7_loop_20 dX7_loop_22 dX7_loop_25 (by decide) (Nat.le_of_ble_eq_true rfl) (by decide) (by decide) ⟨by (first | with_reducible rfl | (simp [cf_loop, sv_0 hp hc, oI, oX, wd_w_row, row_self, row_row, k0, b1]; done) | (simp_all [cf_loop, sv_0 hp hc, oI, oX, wd_w_row, row_self, row_row, k0, b1]; done)), by (first | with_reducible rfl | (simp [cf_loop, sv_0 hp hc, oI, oX, wd_w_row, row_self, row_row, k0, b1]; done) | (simp_all [cf_loop, sv_0 hp hc, oI, oX, wd_w_row, row_self, row_row, k0, b1]; done))⟩
    · skip
      refine aw_iload_n (x := w) rfl dX7_loop_10 ?_
      refine aw_bipush (v := 9) (by decide) dX7_loop_11 ?_
      refine aw_icmp_lt (tgt := 26) (by decide) dX7_loop_13 (fun b2 => ?_) (fun b2 => ?_)
      · skip
        refine aw_aload_n (x := ad 7 0 0) rfl dX7_loop_26 ?_
        refine aw_aload_n (x := ad 1 0 l) rfl dX7_loop_27 ?_
        refine aw_iload_n (x := w) rfl dX7_loop_28 ?_
        refine aw_rV (As := [.ref (ad 1 0 l), .int w]) (S := []) (v := some (.int (cs_lval (o.1 0) m l w))) (o2 := o) (ct_X7_lval G hl5 b1 (Int32.not_le.mpr b2)) (mm_fit_of cbX7_loopValue (by decide) (by decide)) wq267 cvX7_loopValue wv7 rfl rfl rfl (Nat.le_of_ble_eq_true rfl) (by decide) (by decide) rfl dX7_loop_29 ?_
        exact aw_iret rfl (by decide) (by decide) dX7_loop_32 ⟨by (first | with_reducible rfl | (simp [cf_loop, sv_0 hp hc, oI, oX, wd_w_row, row_self, row_row, k0, b1, b2]; done) | (simp_all [cf_loop, sv_0 hp hc, oI, oX, wd_w_row, row_self, row_row, k0, b1, b2]; done)), by (first | with_reducible rfl | (simp [cf_loop, sv_0 hp hc, oI, oX, wd_w_row, row_self, row_row, k0, b1, b2]; done) | (simp_all [cf_loop, sv_0 hp hc, oI, oX, wd_w_row, row_self, row_row, k0, b1, b2]; done))⟩
      · skip
        exact aw_throw th70_74 rfl (text := "what is out of range") (by decide) rfl dX7_loop_16 dX7_loop_19 dX7_loop_20 dX7_loop_22 dX7_loop_25 (by decide) (Nat.le_of_ble_eq_true rfl) (by decide) (by decide) ⟨by (first | with_reducible rfl | (simp [cf_loop, sv_0 hp hc, oI, oX, wd_w_row, row_self, row_row, k0, b1, b2]; done) | (simp_all [cf_loop, sv_0 hp hc, oI, oX, wd_w_row, row_self, row_row, k0, b1, b2]; done)), by (first | with_reducible rfl | (simp [cf_loop, sv_0 hp hc, oI, oX, wd_w_row, row_self, row_row, k0, b1, b2]; done) | (simp_all [cf_loop, sv_0 hp hc, oI, oX, wd_w_row, row_self, row_row, k0, b1, b2]; done))⟩
def cf_lift (o : wd_S) (n m c : Nat) (x : Int32) : Out := match lk m x with
  | none => oX eI o
  | some s => if o.1 0 (101 + 8 * s + 6) = 0 then oI (cs_lift (o.1 0) n m (hm (o.1 0) s) s (20 * hm (o.1 0) s + 1)) (wd_row (cs_sv o c) 0 (cs_lift (o.1 0) n m (hm (o.1 0) s) s)) else oX eS o
def cf_hang (o : wd_S) (n m c : Nat) (x : Int32) : Out := match lk m x with
  | none => oX eI o
  | some s => if o.1 0 (101 + 8 * s + 6) = 0 then oX eS o else oI (cs_hang (o.1 0) n m (hm (o.1 0) s) s (20 * hm (o.1 0) s + 1)) (wd_row (cs_sv o c) 0 (cs_hang (o.1 0) n m (hm (o.1 0) s) s))
theorem ct_lift {ad : Nat → Nat → Nat → Nat} {o : wd_S} {n m c : Nat} (V : vs o n m c) {x : Int32} : CT ad MX7_lift [.ref (ad 7 0 0), .int x] o (OT (cf_lift o n m c x)) := by
  obtain ⟨G, Z, hk, hc⟩ := id V
  obtain ⟨g1, g2, g3, g4, g5, g6⟩ := id G
  refine CT.pi (fun hp => ?_)
  refine CT.of (L := [some (.ref (ad 7 0 0)), some (.int x), none]) rfl rfl (by decide) (Nat.le_of_ble_eq_true rfl) rfl ?_
  refine aw_aload_n (x := ad 7 0 0) rfl dX7_lift_0 ?_
  refine aw_iload_n (x := x) rfl dX7_lift_1 ?_
  rcases k0 : lk m x with _ | s
  · skip
    exact aw_xV (As := [.int x]) (S := []) (ct_X7_knownSub_none G k0) (mm_fit_of cbX7_knownSubscriber (by decide) (by decide)) wq522 cvX7_knownSubscriber wv7 rfl rfl rfl (Nat.le_of_ble_eq_true rfl) (by decide) (by decide) rfl dX7_lift_2 ⟨by (first | with_reducible rfl | (simp [cf_lift, sv_0 hp hc, oI, oX, wd_w_row, row_self, row_row, k0]; done) | (simp_all [cf_lift, sv_0 hp hc, oI, oX, wd_w_row, row_self, row_row, k0]; done)), by (first | with_reducible rfl | (simp [cf_lift, sv_0 hp hc, oI, oX, wd_w_row, row_self, row_row, k0]; done) | (simp_all [cf_lift, sv_0 hp hc, oI, oX, wd_w_row, row_self, row_row, k0]; done))⟩
  · skip
    have hs := (lk_some k0).2
    have hs16 : s < 16 := by omega
    obtain ⟨l, hl, hh⟩ := g5 s hs
    have hl5 : l < 5 := by omega
    have hme : hm (o.1 0) s = l := hm_of hh hl5
    refine aw_rV (As := [.int x]) (S := []) (v := some (.ref (ad 3 0 s))) (o2 := o) (ct_X7_knownSub_some G k0) (mm_fit_of cbX7_knownSubscriber (by decide) (by decide)) wq522 cvX7_knownSubscriber wv7 rfl rfl rfl (Nat.le_of_ble_eq_true rfl) (by decide) (by decide) rfl dX7_lift_2 ?_
    refine aw_astore_n (L2 := [some (.ref (ad 7 0 0)), some (.int x), some (.ref (ad 3 0 s))]) (by decide) rfl rfl dX7_lift_5 ?_
    refine aw_aload_n (x := ad 3 0 s) rfl dX7_lift_6 ?_
    refine aw_geti (q := (0, 101 + 8 * s + 6)) (x := o.1 0 (101 + 8 * s + 6)) (wv3 (by decide) hs16) rfl rfl flX7_126 rfl (Or.inr rfl) dX7_lift_7 ?_
    refine aw_if_eq (tgt := 23) (by decide) dX7_lift_10 (fun b1 => ?_) (fun b1 => ?_)
    · skip
      refine aw_aload_n (x := ad 7 0 0) rfl dX7_lift_23 ?_
      refine aw_getr (q := (9, 0, 0)) wv7 rfl flX7_28 rfl rfl dX7_lift_24 ?_
      refine aw_aload_n (x := ad 7 0 0) rfl dX7_lift_27 ?_
      refine aw_getr (q := (0, 0, 0)) wv7 rfl flX7_10 rfl rfl dX7_lift_28 ?_
      refine aw_rV (As := [.ref (ad 0 0 0)]) (S := []) (v := none) (o2 := (cs_sv o c)) (ct_X2_save G hk hc Z) (mm_fit_of cbX2_save (by decide) (by decide)) wq423 cvX2_save wv9 rfl rfl rfl (Nat.le_of_ble_eq_true rfl) (by decide) (by decide) rfl dX7_lift_31 ?_
      obtain ⟨o1, ho1⟩ : ∃ z, z = (cs_sv o c) := ⟨_, rfl⟩
      rw [← ho1]
      have Go1 : cg (o1.1 0) n m := by rw [ho1]; rw [sv_0 hp hc]; exact G
      have hho1 : o1.1 0 (101 + 8 * s + 1) = nI l := by rw [ho1]; rw [sv_0 hp hc]; exact hh
      refine aw_aload_n (x := ad 7 0 0) rfl dX7_lift_34 ?_
      refine aw_getr (q := (8, 0, 0)) wv7 rfl flX7_21 rfl rfl dX7_lift_35 ?_
      refine aw_aload_n (x := ad 3 0 s) rfl dX7_lift_38 ?_
      refine aw_rV (As := [.ref (ad 3 0 s)]) (S := []) (v := none) (o2 := (wd_row o1 0 (cs_lift (o1.1 0) n m l s))) (ct_X1_lift Go1 hl hs hho1) (mm_fit_of cbX1_liftReceiver (by decide) (by decide)) wq560 cvX1_liftReceiver wv8 rfl rfl rfl (Nat.le_of_ble_eq_true rfl) (by decide) (by decide) rfl dX7_lift_39 ?_
      obtain ⟨o2, ho2⟩ : ∃ z, z = (wd_row o1 0 (cs_lift (o1.1 0) n m l s)) := ⟨_, rfl⟩
      rw [← ho2]
      have Go2 : cg (o2.1 0) n m := by rw [ho2]; rw [row_self]; exact cg_stl (stl_lift g2 hl5) Go1
      have hho1o2 : o2.1 0 (101 + 8 * s + 1) = nI l := by rw [ho2]; rw [row_self]; rw [stl_lift g2 hl5 _ (st_sub hs16 (by decide) (by decide))]; exact hho1
      refine aw_aload_n (x := ad 7 0 0) rfl dX7_lift_42 ?_
      refine aw_aload_n (x := ad 3 0 s) rfl dX7_lift_43 ?_
      refine aw_rV (As := [.ref (ad 3 0 s)]) (S := []) (v := some (.int ((o2.1 0) (20 * l + 1)))) (o2 := o2) (ct_X7_phaseOf Go2 hl hs hho1o2) (mm_fit_of cbX7_phaseOfLoopOf (by decide) (by decide)) wq591 cvX7_phaseOfLoopOf wv7 rfl rfl rfl (Nat.le_of_ble_eq_true rfl) (by decide) (by decide) rfl dX7_lift_44 ?_
      exact aw_iret rfl (by decide) (by decide) dX7_lift_47 ⟨by (subst ho2; subst ho1; first | with_reducible rfl | (simp [cf_lift, sv_0 hp hc, oI, oX, wd_w_row, row_self, row_row, k0, hme, b1]; done) | (simp_all [cf_lift, sv_0 hp hc, oI, oX, wd_w_row, row_self, row_row, k0, hme, b1]; done)), by (subst ho2; subst ho1; first | with_reducible rfl | (simp [cf_lift, sv_0 hp hc, oI, oX, wd_w_row, row_self, row_row, k0, hme, b1]; done) | (simp_all [cf_lift, sv_0 hp hc, oI, oX, wd_w_row, row_self, row_row, k0, hme, b1]; done))⟩
    · skip
      exact aw_throw th43_47 rfl (text := "the receiver is off the hook") (by decide) rfl dX7_lift_13 dX7_lift_16 dX7_lift_17 dX7_lift_19 dX7_lift_22 (by decide) (Nat.le_of_ble_eq_true rfl) (by decide) (by decide) ⟨by (first | with_reducible rfl | (simp [cf_lift, sv_0 hp hc, oI, oX, wd_w_row, row_self, row_row, k0, hme, b1]; done) | (simp_all [cf_lift, sv_0 hp hc, oI, oX, wd_w_row, row_self, row_row, k0, hme, b1]; done)), by (first | with_reducible rfl | (simp [cf_lift, sv_0 hp hc, oI, oX, wd_w_row, row_self, row_row, k0, hme, b1]; done) | (simp_all [cf_lift, sv_0 hp hc, oI, oX, wd_w_row, row_self, row_row, k0, hme, b1]; done))⟩
theorem ct_hang {ad : Nat → Nat → Nat → Nat} {o : wd_S} {n m c : Nat} (V : vs o n m c) {x : Int32} : CT ad MX7_hang [.ref (ad 7 0 0), .int x] o (OT (cf_hang o n m c x)) := by
  obtain ⟨G, Z, hk, hc⟩ := id V
  obtain ⟨g1, g2, g3, g4, g5, g6⟩ := id G
  refine CT.pi (fun hp => ?_)
  refine CT.of (L := [some (.ref (ad 7 0 0)), some (.int x), none]) rfl rfl (by decide) (Nat.le_of_ble_eq_true rfl) rfl ?_
  refine aw_aload_n (x := ad 7 0 0) rfl dX7_hang_0 ?_
  refine aw_iload_n (x := x) rfl dX7_hang_1 ?_
  rcases k0 : lk m x with _ | s
  · skip
    exact aw_xV (As := [.int x]) (S := []) (ct_X7_knownSub_none G k0) (mm_fit_of cbX7_knownSubscriber (by decide) (by decide)) wq522 cvX7_knownSubscriber wv7 rfl rfl rfl (Nat.le_of_ble_eq_true rfl) (by decide) (by decide) rfl dX7_hang_2 ⟨by (first | with_reducible rfl | (simp [cf_hang, sv_0 hp hc, oI, oX, wd_w_row, row_self, row_row, k0]; done) | (simp_all [cf_hang, sv_0 hp hc, oI, oX, wd_w_row, row_self, row_row, k0]; done)), by (first | with_reducible rfl | (simp [cf_hang, sv_0 hp hc, oI, oX, wd_w_row, row_self, row_row, k0]; done) | (simp_all [cf_hang, sv_0 hp hc, oI, oX, wd_w_row, row_self, row_row, k0]; done))⟩
  · skip
    have hs := (lk_some k0).2
    have hs16 : s < 16 := by omega
    obtain ⟨l, hl, hh⟩ := g5 s hs
    have hl5 : l < 5 := by omega
    have hme : hm (o.1 0) s = l := hm_of hh hl5
    refine aw_rV (As := [.int x]) (S := []) (v := some (.ref (ad 3 0 s))) (o2 := o) (ct_X7_knownSub_some G k0) (mm_fit_of cbX7_knownSubscriber (by decide) (by decide)) wq522 cvX7_knownSubscriber wv7 rfl rfl rfl (Nat.le_of_ble_eq_true rfl) (by decide) (by decide) rfl dX7_hang_2 ?_
    refine aw_astore_n (L2 := [some (.ref (ad 7 0 0)), some (.int x), some (.ref (ad 3 0 s))]) (by decide) rfl rfl dX7_hang_5 ?_
    refine aw_aload_n (x := ad 3 0 s) rfl dX7_hang_6 ?_
    refine aw_geti (q := (0, 101 + 8 * s + 6)) (x := o.1 0 (101 + 8 * s + 6)) (wv3 (by decide) hs16) rfl rfl flX7_126 rfl (Or.inr rfl) dX7_hang_7 ?_
    refine aw_if_ne (tgt := 23) (by decide) dX7_hang_10 (fun b1 => ?_) (fun b1 => ?_)
    · skip
      refine aw_aload_n (x := ad 7 0 0) rfl dX7_hang_23 ?_
      refine aw_getr (q := (9, 0, 0)) wv7 rfl flX7_28 rfl rfl dX7_hang_24 ?_
      refine aw_aload_n (x := ad 7 0 0) rfl dX7_hang_27 ?_
      refine aw_getr (q := (0, 0, 0)) wv7 rfl flX7_10 rfl rfl dX7_hang_28 ?_
      refine aw_rV (As := [.ref (ad 0 0 0)]) (S := []) (v := none) (o2 := (cs_sv o c)) (ct_X2_save G hk hc Z) (mm_fit_of cbX2_save (by decide) (by decide)) wq423 cvX2_save wv9 rfl rfl rfl (Nat.le_of_ble_eq_true rfl) (by decide) (by decide) rfl dX7_hang_31 ?_
      obtain ⟨o1, ho1⟩ : ∃ z, z = (cs_sv o c) := ⟨_, rfl⟩
      rw [← ho1]
      have Go1 : cg (o1.1 0) n m := by rw [ho1]; rw [sv_0 hp hc]; exact G
      have hho1 : o1.1 0 (101 + 8 * s + 1) = nI l := by rw [ho1]; rw [sv_0 hp hc]; exact hh
      refine aw_aload_n (x := ad 7 0 0) rfl dX7_hang_34 ?_
      refine aw_getr (q := (8, 0, 0)) wv7 rfl flX7_21 rfl rfl dX7_hang_35 ?_
      refine aw_aload_n (x := ad 3 0 s) rfl dX7_hang_38 ?_
      refine aw_rV (As := [.ref (ad 3 0 s)]) (S := []) (v := none) (o2 := (wd_row o1 0 (cs_hang (o1.1 0) n m l s))) (ct_X1_hangUp Go1 hl hs hho1) (mm_fit_of cbX1_hangUp (by decide) (by decide)) wq603 cvX1_hangUp wv8 rfl rfl rfl (Nat.le_of_ble_eq_true rfl) (by decide) (by decide) rfl dX7_hang_39 ?_
      obtain ⟨o2, ho2⟩ : ∃ z, z = (wd_row o1 0 (cs_hang (o1.1 0) n m l s)) := ⟨_, rfl⟩
      rw [← ho2]
      have Go2 : cg (o2.1 0) n m := by rw [ho2]; rw [row_self]; exact cg_stl (stl_hang g2 hl5) Go1
      have hho1o2 : o2.1 0 (101 + 8 * s + 1) = nI l := by rw [ho2]; rw [row_self]; rw [stl_hang g2 hl5 _ (st_sub hs16 (by decide) (by decide))]; exact hho1
      refine aw_aload_n (x := ad 7 0 0) rfl dX7_hang_42 ?_
      refine aw_aload_n (x := ad 3 0 s) rfl dX7_hang_43 ?_
      refine aw_rV (As := [.ref (ad 3 0 s)]) (S := []) (v := some (.int ((o2.1 0) (20 * l + 1)))) (o2 := o2) (ct_X7_phaseOf Go2 hl hs hho1o2) (mm_fit_of cbX7_phaseOfLoopOf (by decide) (by decide)) wq591 cvX7_phaseOfLoopOf wv7 rfl rfl rfl (Nat.le_of_ble_eq_true rfl) (by decide) (by decide) rfl dX7_hang_44 ?_
      exact aw_iret rfl (by decide) (by decide) dX7_hang_47 ⟨by (subst ho2; subst ho1; first | with_reducible rfl | (simp [cf_hang, sv_0 hp hc, oI, oX, wd_w_row, row_self, row_row, k0, hme, b1]; done) | (simp_all [cf_hang, sv_0 hp hc, oI, oX, wd_w_row, row_self, row_row, k0, hme, b1]; done)), by (subst ho2; subst ho1; first | with_reducible rfl | (simp [cf_hang, sv_0 hp hc, oI, oX, wd_w_row, row_self, row_row, k0, hme, b1]; done) | (simp_all [cf_hang, sv_0 hp hc, oI, oX, wd_w_row, row_self, row_row, k0, hme, b1]; done))⟩
    · skip
      exact aw_throw th43_47 rfl (text := "the receiver is on the hook") (by decide) rfl dX7_hang_13 dX7_hang_16 dX7_hang_17 dX7_hang_19 dX7_hang_22 (by decide) (Nat.le_of_ble_eq_true rfl) (by decide) (by decide) ⟨by (first | with_reducible rfl | (simp [cf_hang, sv_0 hp hc, oI, oX, wd_w_row, row_self, row_row, k0, hme, b1]; done) | (simp_all [cf_hang, sv_0 hp hc, oI, oX, wd_w_row, row_self, row_row, k0, hme, b1]; done)), by (first | with_reducible rfl | (simp [cf_hang, sv_0 hp hc, oI, oX, wd_w_row, row_self, row_row, k0, hme, b1]; done) | (simp_all [cf_hang, sv_0 hp hc, oI, oX, wd_w_row, row_self, row_row, k0, hme, b1]; done))⟩
def cf_dial (o : wd_S) (n m c : Nat) (x y : Int32) : Out := match lk m x with
  | none => oX eI o
  | some s => if o.1 0 (20 * hm (o.1 0) s + 1) ≠ 1 then oX eS o else if o.1 0 (20 * hm (o.1 0) s + 3) ≠ nI s then oX eS o else oI (cs_dial (o.1 0) m (hm (o.1 0) s) s y (20 * hm (o.1 0) s + 1)) (wd_row (cs_sv o c) 0 (cs_dial (o.1 0) m (hm (o.1 0) s) s y))
theorem ct_dial {ad : Nat → Nat → Nat → Nat} {o : wd_S} {n m c : Nat} (V : vs o n m c) {x y : Int32} : CT ad MX7_dial [.ref (ad 7 0 0), .int x, .int y] o (OT (cf_dial o n m c x y)) := by
  obtain ⟨G, Z, hk, hc⟩ := id V
  obtain ⟨g1, g2, g3, g4, g5, g6⟩ := id G
  refine CT.pi (fun hp => ?_)
  refine CT.of (L := [some (.ref (ad 7 0 0)), some (.int x), some (.int y), none, none]) rfl rfl (by decide) (Nat.le_of_ble_eq_true rfl) rfl ?_
  refine aw_aload_n (x := ad 7 0 0) rfl dX7_dial_0 ?_
  refine aw_iload_n (x := x) rfl dX7_dial_1 ?_
  rcases k0 : lk m x with _ | s
  · skip
    exact aw_xV (As := [.int x]) (S := []) (ct_X7_knownSub_none G k0) (mm_fit_of cbX7_knownSubscriber (by decide) (by decide)) wq522 cvX7_knownSubscriber wv7 rfl rfl rfl (Nat.le_of_ble_eq_true rfl) (by decide) (by decide) rfl dX7_dial_2 ⟨by (first | with_reducible rfl | (simp [cf_dial, sv_0 hp hc, oI, oX, wd_w_row, row_self, row_row, k0]; done) | (simp_all [cf_dial, sv_0 hp hc, oI, oX, wd_w_row, row_self, row_row, k0]; done)), by (first | with_reducible rfl | (simp [cf_dial, sv_0 hp hc, oI, oX, wd_w_row, row_self, row_row, k0]; done) | (simp_all [cf_dial, sv_0 hp hc, oI, oX, wd_w_row, row_self, row_row, k0]; done))⟩
  · skip
    have hs := (lk_some k0).2
    have hs16 : s < 16 := by omega
    obtain ⟨l, hl, hh⟩ := g5 s hs
    have hl5 : l < 5 := by omega
    have hme : hm (o.1 0) s = l := hm_of hh hl5
    refine aw_rV (As := [.int x]) (S := []) (v := some (.ref (ad 3 0 s))) (o2 := o) (ct_X7_knownSub_some G k0) (mm_fit_of cbX7_knownSubscriber (by decide) (by decide)) wq522 cvX7_knownSubscriber wv7 rfl rfl rfl (Nat.le_of_ble_eq_true rfl) (by decide) (by decide) rfl dX7_dial_2 ?_
    refine aw_astore_n (L2 := [some (.ref (ad 7 0 0)), some (.int x), some (.int y), some (.ref (ad 3 0 s)), none]) (by decide) rfl rfl dX7_dial_5 ?_
    refine aw_aload_n (x := ad 7 0 0) rfl dX7_dial_6 ?_
    refine aw_getr (q := (0, 0, 0)) wv7 rfl flX7_10 rfl rfl dX7_dial_7 ?_
    refine aw_aload_n (x := ad 3 0 s) rfl dX7_dial_10 ?_
    refine aw_geti (q := (0, 101 + 8 * s + 1)) (x := nI l) (wv3 (by decide) hs16) rfl hh flX7_144 rfl (Or.inl rfl) dX7_dial_11 ?_
    refine aw_rV (As := [.int (nI l)]) (S := []) (v := some (.ref (ad 1 0 l))) (o2 := o) (ct_X5_loopAt_some G hl) (mm_fit_of cbX5_loopAt (by decide) (by decide)) wq259 cvX5_loopAt (wv0 (by decide)) rfl rfl rfl (Nat.le_of_ble_eq_true rfl) (by decide) (by decide) rfl dX7_dial_14 ?_
    refine aw_astore (L2 := [some (.ref (ad 7 0 0)), some (.int x), some (.int y), some (.ref (ad 3 0 s)), some (.ref (ad 1 0 l))]) (by decide) rfl rfl dX7_dial_17 ?_
    refine aw_aload (x := ad 1 0 l) rfl dX7_dial_19 ?_
    refine aw_ifnull dX7_dial_21 ?_
    refine aw_aload (x := ad 1 0 l) rfl dX7_dial_24 ?_
    refine aw_geti (q := (0, 20 * l + 1)) (x := o.1 0 (20 * l + 1)) (wv1 (by decide) (by omega)) rfl rfl flX7_150 rfl (Or.inl rfl) dX7_dial_26 ?_
    refine aw_iconst (v := 1) (by decide) dX7_dial_29 ?_
    refine aw_icmp_ne (tgt := 45) (by decide) dX7_dial_30 (fun b1 => ?_) (fun b1 => ?_)
    · skip
      exact aw_throw th43_47 rfl (text := "it is not the first party of a seized loop") (by decide) rfl dX7_dial_45 dX7_dial_48 dX7_dial_49 dX7_dial_51 dX7_dial_54 (by decide) (Nat.le_of_ble_eq_true rfl) (by decide) (by decide) ⟨by (first | with_reducible rfl | (simp [cf_dial, sv_0 hp hc, oI, oX, wd_w_row, row_self, row_row, k0, hme, b1]; done) | (simp_all [cf_dial, sv_0 hp hc, oI, oX, wd_w_row, row_self, row_row, k0, hme, b1]; done)), by (first | with_reducible rfl | (simp [cf_dial, sv_0 hp hc, oI, oX, wd_w_row, row_self, row_row, k0, hme, b1]; done) | (simp_all [cf_dial, sv_0 hp hc, oI, oX, wd_w_row, row_self, row_row, k0, hme, b1]; done))⟩
    · skip
      refine aw_aload (x := ad 1 0 l) rfl dX7_dial_33 ?_
      refine aw_geti (q := (0, 20 * l + 3)) (x := o.1 0 (20 * l + 3)) (wv1 (by decide) (by omega)) rfl rfl flX7_155 rfl (Or.inl rfl) dX7_dial_35 ?_
      refine aw_aload_n (x := ad 3 0 s) rfl dX7_dial_38 ?_
      refine aw_num (Or.inr rfl) (wv3 (by decide) hs16) flX7_158 rfl rfl dX7_dial_39 ?_
      refine aw_icmp_eq (tgt := 55) (by decide) dX7_dial_42 (fun b2 => ?_) (fun b2 => ?_)
      · skip
        refine aw_aload_n (x := ad 7 0 0) rfl dX7_dial_55 ?_
        refine aw_getr (q := (9, 0, 0)) wv7 rfl flX7_28 rfl rfl dX7_dial_56 ?_
        refine aw_aload_n (x := ad 7 0 0) rfl dX7_dial_59 ?_
        refine aw_getr (q := (0, 0, 0)) wv7 rfl flX7_10 rfl rfl dX7_dial_60 ?_
        refine aw_rV (As := [.ref (ad 0 0 0)]) (S := []) (v := none) (o2 := (cs_sv o c)) (ct_X2_save G hk hc Z) (mm_fit_of cbX2_save (by decide) (by decide)) wq423 cvX2_save wv9 rfl rfl rfl (Nat.le_of_ble_eq_true rfl) (by decide) (by decide) rfl dX7_dial_63 ?_
        obtain ⟨o1, ho1⟩ : ∃ z, z = (cs_sv o c) := ⟨_, rfl⟩
        rw [← ho1]
        have Go1 : cg (o1.1 0) n m := by rw [ho1]; rw [sv_0 hp hc]; exact G
        have hho1 : o1.1 0 (101 + 8 * s + 1) = nI l := by rw [ho1]; rw [sv_0 hp hc]; exact hh
        refine aw_aload_n (x := ad 7 0 0) rfl dX7_dial_66 ?_
        refine aw_getr (q := (8, 0, 0)) wv7 rfl flX7_21 rfl rfl dX7_dial_67 ?_
        refine aw_aload (x := ad 1 0 l) rfl dX7_dial_70 ?_
        refine aw_aload_n (x := ad 3 0 s) rfl dX7_dial_72 ?_
        refine aw_iload_n (x := y) rfl dX7_dial_73 ?_
        refine aw_rV (As := [.ref (ad 1 0 l), .ref (ad 3 0 s), .int y]) (S := []) (v := none) (o2 := (wd_row o1 0 (cs_dial (o1.1 0) m l s y))) (ct_X1_dial Go1 hl hs hho1) (mm_fit_of cbX1_dialNumber (by decide) (by decide)) wq629 cvX1_dialNumber wv8 rfl rfl rfl (Nat.le_of_ble_eq_true rfl) (by decide) (by decide) rfl dX7_dial_74 ?_
        refine aw_aload (x := ad 1 0 l) rfl dX7_dial_77 ?_
        refine aw_geti (q := (0, 20 * l + 1)) (x := (wd_row o1 0 (cs_dial (o1.1 0) m l s y)).1 0 (20 * l + 1)) (wv1 (by decide) (by omega)) rfl rfl flX7_150 rfl (Or.inl rfl) dX7_dial_79 ?_
        exact aw_iret rfl (by decide) (by decide) dX7_dial_82 ⟨by (subst ho1; first | with_reducible rfl | (simp [cf_dial, sv_0 hp hc, oI, oX, wd_w_row, row_self, row_row, k0, hme, b1, b2]; done) | (simp_all [cf_dial, sv_0 hp hc, oI, oX, wd_w_row, row_self, row_row, k0, hme, b1, b2]; done)), by (subst ho1; first | with_reducible rfl | (simp [cf_dial, sv_0 hp hc, oI, oX, wd_w_row, row_self, row_row, k0, hme, b1, b2]; done) | (simp_all [cf_dial, sv_0 hp hc, oI, oX, wd_w_row, row_self, row_row, k0, hme, b1, b2]; done))⟩
      · skip
        exact aw_throw th43_47 rfl (text := "it is not the first party of a seized loop") (by decide) rfl dX7_dial_45 dX7_dial_48 dX7_dial_49 dX7_dial_51 dX7_dial_54 (by decide) (Nat.le_of_ble_eq_true rfl) (by decide) (by decide) ⟨by (first | with_reducible rfl | (simp [cf_dial, sv_0 hp hc, oI, oX, wd_w_row, row_self, row_row, k0, hme, b1, b2]; done) | (simp_all [cf_dial, sv_0 hp hc, oI, oX, wd_w_row, row_self, row_row, k0, hme, b1, b2]; done)), by (first | with_reducible rfl | (simp [cf_dial, sv_0 hp hc, oI, oX, wd_w_row, row_self, row_row, k0, hme, b1, b2]; done) | (simp_all [cf_dial, sv_0 hp hc, oI, oX, wd_w_row, row_self, row_row, k0, hme, b1, b2]; done))⟩
