/-! the reference: its row (8 of the world) has the class's layout, but for column 7 of a subscriber, its role -/
theorem RTv {ad : Nat → Nat → Nat → Nat} {M : mm_M} {av : List Value} {o o2 : wd_S} {x y : Int32} (h : CT ad M av o (RT (some (.int x)) o2)) (e : x = y) : CT ad M av o (RT (some (.int y)) o2) := e ▸ h
def mR (k : Int32) (o : wd_S) : Out := (.inl (some (.int 0)), wd_w o 12 1 k)
def mf_need (x : Int32) : Int32 := if x = 0 then 1 else 0
theorem ct_X8_thrown {ad : Nat → Nat → Nat → Nat} {o : wd_S}  : CT ad MX8_thrown [.ref (ad 14 0 0)] o (RT (some (.int (o.1 12 1))) o) := by
  refine CT.of (L := [some (.ref (ad 14 0 0))]) rfl rfl (by decide) (Nat.le_of_ble_eq_true rfl) rfl ?_
  refine aw_aload_n (x := ad 14 0 0) rfl dX8_thrown_0 ?_
  refine aw_geti (q := (12, 1)) (x := o.1 12 1) wv14 rfl rfl flX8_25 rfl (Or.inl rfl) dX8_thrown_1 ?_
  exact aw_iret rfl (by decide) (by decide) dX8_thrown_4 ⟨by first | rfl | (simp [wd_w_row, row_self, row_row]; done) | (simp_all [wd_w_row, row_self, row_row]; done), by first | rfl | (simp [wd_w_row, row_self, row_row]; done) | (simp_all [wd_w_row, row_self, row_row]; done)⟩
theorem ct_refused_0 {ad : Nat → Nat → Nat → Nat} {o : wd_S}  : CT ad MX8_refused [.ref (ad 14 0 0), .int 0] o (RT (some (.int 0)) (wd_w o 12 1 0)) := by
  refine CT.of (L := [some (.ref (ad 14 0 0)), some (.int 0)]) rfl rfl (by decide) (Nat.le_of_ble_eq_true rfl) rfl ?_
  refine aw_aload_n (x := ad 14 0 0) rfl dX8_refused_0 ?_
  refine aw_iload_n (x := 0) rfl dX8_refused_1 ?_
  refine aw_puti (q := (12, 1)) wv14 rfl fwX8_25 rfl rfl dX8_refused_2 ?_
  refine aw_iload_n (x := 0) rfl dX8_refused_5 ?_
  refine aw_if_le (tgt := 13) (by decide) dX8_refused_6 (fun _ => ?_) (fun z => absurd z (by decide))
  refine aw_iconst (v := 0) (by decide) dX8_refused_13 ?_
  exact aw_zret rfl (by decide) (by decide) (by decide) dX8_refused_14 ⟨by first | rfl | (simp [wd_w_row, row_self, row_row]; done) | (simp_all [wd_w_row, row_self, row_row]; done), by first | rfl | (simp [wd_w_row, row_self, row_row]; done) | (simp_all [wd_w_row, row_self, row_row]; done)⟩
theorem ct_refused_p {ad : Nat → Nat → Nat → Nat} {o : wd_S} {w : Int32} (h : ¬ w ≤ 0) : CT ad MX8_refused [.ref (ad 14 0 0), .int w] o (RT (some (.int 1)) (wd_w o 12 1 w)) := by
  refine CT.of (L := [some (.ref (ad 14 0 0)), some (.int w)]) rfl rfl (by decide) (Nat.le_of_ble_eq_true rfl) rfl ?_
  refine aw_aload_n (x := ad 14 0 0) rfl dX8_refused_0 ?_
  refine aw_iload_n (x := w) rfl dX8_refused_1 ?_
  refine aw_puti (q := (12, 1)) wv14 rfl fwX8_25 rfl rfl dX8_refused_2 ?_
  refine aw_iload_n (x := w) rfl dX8_refused_5 ?_
  refine aw_if_le (tgt := 13) (by decide) dX8_refused_6 (fun z => absurd z h) (fun _ => ?_)
  refine aw_iconst (v := 1) (by decide) dX8_refused_9 ?_
  refine aw_goto (tgt := 14) (by decide) dX8_refused_10 ?_
  exact aw_zret rfl (by decide) (by decide) (by decide) dX8_refused_14 ⟨by first | rfl | (simp [wd_w_row, row_self, row_row]; done) | (simp_all [wd_w_row, row_self, row_row]; done), by first | rfl | (simp [wd_w_row, row_self, row_row]; done) | (simp_all [wd_w_row, row_self, row_row]; done)⟩
theorem ct_within_lo {ad : Nat → Nat → Nat → Nat} {o : wd_S} {v a b : Int32} (h : v < a) : CT ad MX8_within [.int v, .int a, .int b] o (RT (some (.int 0)) o) := by
  refine CT.of (L := [some (.int v), some (.int a), some (.int b)]) rfl rfl (by decide) (Nat.le_of_ble_eq_true rfl) rfl ?_
  refine aw_iload_n (x := v) rfl dX8_within_0 ?_
  refine aw_iload_n (x := a) rfl dX8_within_1 ?_
  refine aw_icmp_lt (tgt := 14) (by decide) dX8_within_2 (fun _ => ?_) (fun z => absurd h z)
  refine aw_iconst (v := 0) (by decide) dX8_within_14 ?_
  exact aw_zret rfl (by decide) (by decide) (by decide) dX8_within_15 ⟨by first | rfl | (simp [wd_w_row, row_self, row_row]; done) | (simp_all [wd_w_row, row_self, row_row]; done), by first | rfl | (simp [wd_w_row, row_self, row_row]; done) | (simp_all [wd_w_row, row_self, row_row]; done)⟩
theorem ct_within_hi {ad : Nat → Nat → Nat → Nat} {o : wd_S} {v a b : Int32} (h : v > b) : CT ad MX8_within [.int v, .int a, .int b] o (RT (some (.int 0)) o) := by
  refine CT.of (L := [some (.int v), some (.int a), some (.int b)]) rfl rfl (by decide) (Nat.le_of_ble_eq_true rfl) rfl ?_
  refine aw_iload_n (x := v) rfl dX8_within_0 ?_
  refine aw_iload_n (x := a) rfl dX8_within_1 ?_
  refine aw_icmp_lt (tgt := 14) (by decide) dX8_within_2 (fun b1 => ?_) (fun b1 => ?_)
  · skip
    refine aw_iconst (v := 0) (by decide) dX8_within_14 ?_
    exact aw_zret rfl (by decide) (by decide) (by decide) dX8_within_15 ⟨by first | rfl | (simp [wd_w_row, row_self, row_row, b1]; done) | (simp_all [wd_w_row, row_self, row_row, b1]; done), by first | rfl | (simp [wd_w_row, row_self, row_row, b1]; done) | (simp_all [wd_w_row, row_self, row_row, b1]; done)⟩
  · skip
    refine aw_iload_n (x := v) rfl dX8_within_5 ?_
    refine aw_iload_n (x := b) rfl dX8_within_6 ?_
    refine aw_icmp_gt (tgt := 14) (by decide) dX8_within_7 (fun _ => ?_) (fun z => absurd h z)
    refine aw_iconst (v := 0) (by decide) dX8_within_14 ?_
    exact aw_zret rfl (by decide) (by decide) (by decide) dX8_within_15 ⟨by first | rfl | (simp [wd_w_row, row_self, row_row, b1]; done) | (simp_all [wd_w_row, row_self, row_row, b1]; done), by first | rfl | (simp [wd_w_row, row_self, row_row, b1]; done) | (simp_all [wd_w_row, row_self, row_row, b1]; done)⟩
theorem ct_within_in {ad : Nat → Nat → Nat → Nat} {o : wd_S} {v a b : Int32} (h1 : ¬ v < a) (h2 : ¬ v > b) : CT ad MX8_within [.int v, .int a, .int b] o (RT (some (.int 1)) o) := by
  refine CT.of (L := [some (.int v), some (.int a), some (.int b)]) rfl rfl (by decide) (Nat.le_of_ble_eq_true rfl) rfl ?_
  refine aw_iload_n (x := v) rfl dX8_within_0 ?_
  refine aw_iload_n (x := a) rfl dX8_within_1 ?_
  refine aw_icmp_lt (tgt := 14) (by decide) dX8_within_2 (fun z => absurd z h1) (fun _ => ?_)
  refine aw_iload_n (x := v) rfl dX8_within_5 ?_
  refine aw_iload_n (x := b) rfl dX8_within_6 ?_
  refine aw_icmp_gt (tgt := 14) (by decide) dX8_within_7 (fun z => absurd z h2) (fun _ => ?_)
  refine aw_iconst (v := 1) (by decide) dX8_within_10 ?_
  refine aw_goto (tgt := 15) (by decide) dX8_within_11 ?_
  exact aw_zret rfl (by decide) (by decide) (by decide) dX8_within_15 ⟨by first | rfl | (simp [wd_w_row, row_self, row_row]; done) | (simp_all [wd_w_row, row_self, row_row]; done), by first | rfl | (simp [wd_w_row, row_self, row_row]; done) | (simp_all [wd_w_row, row_self, row_row]; done)⟩
theorem ct_X8_need {ad : Nat → Nat → Nat → Nat} {o : wd_S} {x : Int32} : CT ad MX8_need [.ref (ad 14 0 0), .int x] o (RT (some (.int (mf_need x))) o) := by
  refine CT.of (L := [some (.ref (ad 14 0 0)), some (.int x)]) rfl rfl (by decide) (Nat.le_of_ble_eq_true rfl) rfl ?_
  refine aw_iload_n (x := x) rfl dX8_need_0 ?_
  refine aw_if_eq (tgt := 8) (by decide) dX8_need_1 (fun b1 => ?_) (fun b1 => ?_)
  · skip
    refine aw_iconst (v := 1) (by decide) dX8_need_8 ?_
    exact aw_iret rfl (by decide) (by decide) dX8_need_9 ⟨by first | rfl | (simp [mf_need, wd_w_row, row_self, row_row, b1]; done) | (simp_all [mf_need, wd_w_row, row_self, row_row, b1]; done), by first | rfl | (simp [mf_need, wd_w_row, row_self, row_row, b1]; done) | (simp_all [mf_need, wd_w_row, row_self, row_row, b1]; done)⟩
  · skip
    refine aw_iconst (v := 0) (by decide) dX8_need_4 ?_
    refine aw_goto (tgt := 9) (by decide) dX8_need_5 ?_
    exact aw_iret rfl (by decide) (by decide) dX8_need_9 ⟨by first | rfl | (simp [mf_need, wd_w_row, row_self, row_row, b1]; done) | (simp_all [mf_need, wd_w_row, row_self, row_row, b1]; done), by first | rfl | (simp [mf_need, wd_w_row, row_self, row_row, b1]; done) | (simp_all [mf_need, wd_w_row, row_self, row_row, b1]; done)⟩
theorem ct_need_0 {ad : Nat → Nat → Nat → Nat} {o : wd_S}  : CT ad MX8_need [.ref (ad 14 0 0), .int 0] o (RT (some (.int 1)) o) := by
  refine CT.of (L := [some (.ref (ad 14 0 0)), some (.int 0)]) rfl rfl (by decide) (Nat.le_of_ble_eq_true rfl) rfl ?_
  refine aw_iload_n (x := 0) rfl dX8_need_0 ?_
  refine aw_if_eq (tgt := 8) (by decide) dX8_need_1 (fun _ => ?_) (fun z => absurd z (by decide))
  refine aw_iconst (v := 1) (by decide) dX8_need_8 ?_
  exact aw_iret rfl (by decide) (by decide) dX8_need_9 ⟨by first | rfl | (simp [wd_w_row, row_self, row_row]; done) | (simp_all [wd_w_row, row_self, row_row]; done), by first | rfl | (simp [wd_w_row, row_self, row_row]; done) | (simp_all [wd_w_row, row_self, row_row]; done)⟩
theorem ct_need_1 {ad : Nat → Nat → Nat → Nat} {o : wd_S}  : CT ad MX8_need [.ref (ad 14 0 0), .int 1] o (RT (some (.int 0)) o) := by
  refine CT.of (L := [some (.ref (ad 14 0 0)), some (.int 1)]) rfl rfl (by decide) (Nat.le_of_ble_eq_true rfl) rfl ?_
  refine aw_iload_n (x := 1) rfl dX8_need_0 ?_
  refine aw_if_eq (tgt := 8) (by decide) dX8_need_1 (fun z => absurd z (by decide)) (fun _ => ?_)
  refine aw_iconst (v := 0) (by decide) dX8_need_4 ?_
  refine aw_goto (tgt := 9) (by decide) dX8_need_5 ?_
  exact aw_iret rfl (by decide) (by decide) dX8_need_9 ⟨by first | rfl | (simp [wd_w_row, row_self, row_row]; done) | (simp_all [wd_w_row, row_self, row_row]; done), by first | rfl | (simp [wd_w_row, row_self, row_row]; done) | (simp_all [wd_w_row, row_self, row_row]; done)⟩
theorem ct_X8_of {ad : Nat → Nat → Nat → Nat} {o : wd_S} {l w : Nat} (hl : l < 5) (hw : w ≤ 19) : CT ad MX8_of [.ref (ad 14 0 0), .int (nI l), .int (nI w)] o (RT (some (.int (o.1 8 (20 * l + w + 1)))) o) := by
  refine CT.of (L := [some (.ref (ad 14 0 0)), some (.int (nI l)), some (.int (nI w))]) rfl rfl (by decide) (Nat.le_of_ble_eq_true rfl) rfl ?_
  refine aw_aload_n (x := ad 14 0 0) rfl dX8_of_0 ?_
  refine aw_getr (q := (15, 0, 0)) wv14 rfl flX8_7 rfl rfl dX8_of_1 ?_
  refine aw_iconst (v := 1) (by decide) dX8_of_4 ?_
  refine aw_bipush (v := 20) (by decide) dX8_of_5 ?_
  refine aw_iload_n (x := (nI l)) rfl dX8_of_7 ?_
  refine aw_imulz (z := nI (20 * l)) (nI_mul 20 l) dX8_of_8 ?_
  refine aw_iaddz (z := nI (1 + (20 * l))) (nI_add 1 (20 * l)) dX8_of_9 ?_
  refine aw_iload_n (x := (nI w)) rfl dX8_of_10 ?_
  refine aw_iaddz (z := nI (1 + (20 * l) + w)) (nI_add (1 + (20 * l)) w) dX8_of_11 ?_
  refine aw_ild (x := 1 + (20 * l) + w) (q := (8, 1 + (20 * l) + w)) (y := o.1 8 (1 + (20 * l) + w)) rfl (wv15 (by decide)) (wi15 (by show _ < 237; omega)) rfl (by show _ < 237; omega) rfl dX8_of_12 ?_
  exact aw_iret rfl (by decide) (by decide) dX8_of_13 ⟨by rw [show 1 + 20 * l + w = 20 * l + w + 1 by omega], rfl⟩
theorem ct_X8_its {ad : Nat → Nat → Nat → Nat} {o : wd_S} {s w : Nat} (hs : s < 16) (hw : w ≤ 7) : CT ad MX8_its [.ref (ad 14 0 0), .int (nI s), .int (nI w)] o (RT (some (.int (o.1 8 (101 + 8 * s + w + 1)))) o) := by
  refine CT.of (L := [some (.ref (ad 14 0 0)), some (.int (nI s)), some (.int (nI w))]) rfl rfl (by decide) (Nat.le_of_ble_eq_true rfl) rfl ?_
  refine aw_aload_n (x := ad 14 0 0) rfl dX8_its_0 ?_
  refine aw_getr (q := (15, 0, 0)) wv14 rfl flX8_7 rfl rfl dX8_its_1 ?_
  refine aw_bipush (v := 102) (by decide) dX8_its_4 ?_
  refine aw_bipush (v := 8) (by decide) dX8_its_6 ?_
  refine aw_iload_n (x := (nI s)) rfl dX8_its_8 ?_
  refine aw_imulz (z := nI (8 * s)) (nI_mul 8 s) dX8_its_9 ?_
  refine aw_iaddz (z := nI (102 + (8 * s))) (nI_add 102 (8 * s)) dX8_its_10 ?_
  refine aw_iload_n (x := (nI w)) rfl dX8_its_11 ?_
  refine aw_iaddz (z := nI (102 + (8 * s) + w)) (nI_add (102 + (8 * s)) w) dX8_its_12 ?_
  refine aw_ild (x := 102 + (8 * s) + w) (q := (8, 102 + (8 * s) + w)) (y := o.1 8 (102 + (8 * s) + w)) rfl (wv15 (by decide)) (wi15 (by show _ < 237; omega)) rfl (by show _ < 237; omega) rfl dX8_its_13 ?_
  exact aw_iret rfl (by decide) (by decide) dX8_its_14 ⟨by rw [show 102 + 8 * s + w = 101 + 8 * s + w + 1 by omega], rfl⟩
theorem ct_X8_put {ad : Nat → Nat → Nat → Nat} {o : wd_S} {l w : Nat} (hl : l < 5) (hw : w ≤ 19) {v : Int32} : CT ad MX8_put [.ref (ad 14 0 0), .int (nI l), .int (nI w), .int v] o (RT none (wd_w o 8 (20 * l + w + 1) v)) := by
  refine CT.of (L := [some (.ref (ad 14 0 0)), some (.int (nI l)), some (.int (nI w)), some (.int v)]) rfl rfl (by decide) (Nat.le_of_ble_eq_true rfl) rfl ?_
  refine aw_aload_n (x := ad 14 0 0) rfl dX8_put_0 ?_
  refine aw_getr (q := (15, 0, 0)) wv14 rfl flX8_7 rfl rfl dX8_put_1 ?_
  refine aw_iconst (v := 1) (by decide) dX8_put_4 ?_
  refine aw_bipush (v := 20) (by decide) dX8_put_5 ?_
  refine aw_iload_n (x := (nI l)) rfl dX8_put_7 ?_
  refine aw_imulz (z := nI (20 * l)) (nI_mul 20 l) dX8_put_8 ?_
  refine aw_iaddz (z := nI (1 + (20 * l))) (nI_add 1 (20 * l)) dX8_put_9 ?_
  refine aw_iload_n (x := (nI w)) rfl dX8_put_10 ?_
  refine aw_iaddz (z := nI (1 + (20 * l) + w)) (nI_add (1 + (20 * l)) w) dX8_put_11 ?_
  refine aw_iload_n (x := v) rfl dX8_put_12 ?_
  refine aw_ist (x := 1 + (20 * l) + w) (q := (8, 1 + (20 * l) + w)) (y := v) rfl (wv15 (by decide)) (wi15 (by show _ < 237; omega)) (by show _ < 237; omega) rfl dX8_put_13 ?_
  exact aw_vret rfl (by decide) (by decide) dX8_put_14 ⟨rfl, by rw [show 1 + 20 * l + w = 20 * l + w + 1 by omega]⟩
theorem ct_X8_give {ad : Nat → Nat → Nat → Nat} {o : wd_S} {s w : Nat} (hs : s < 16) (hw : w ≤ 7) {v : Int32} : CT ad MX8_give [.ref (ad 14 0 0), .int (nI s), .int (nI w), .int v] o (RT none (wd_w o 8 (101 + 8 * s + w + 1) v)) := by
  refine CT.of (L := [some (.ref (ad 14 0 0)), some (.int (nI s)), some (.int (nI w)), some (.int v)]) rfl rfl (by decide) (Nat.le_of_ble_eq_true rfl) rfl ?_
  refine aw_aload_n (x := ad 14 0 0) rfl dX8_give_0 ?_
  refine aw_getr (q := (15, 0, 0)) wv14 rfl flX8_7 rfl rfl dX8_give_1 ?_
  refine aw_bipush (v := 102) (by decide) dX8_give_4 ?_
  refine aw_bipush (v := 8) (by decide) dX8_give_6 ?_
  refine aw_iload_n (x := (nI s)) rfl dX8_give_8 ?_
  refine aw_imulz (z := nI (8 * s)) (nI_mul 8 s) dX8_give_9 ?_
  refine aw_iaddz (z := nI (102 + (8 * s))) (nI_add 102 (8 * s)) dX8_give_10 ?_
  refine aw_iload_n (x := (nI w)) rfl dX8_give_11 ?_
  refine aw_iaddz (z := nI (102 + (8 * s) + w)) (nI_add (102 + (8 * s)) w) dX8_give_12 ?_
  refine aw_iload_n (x := v) rfl dX8_give_13 ?_
  refine aw_ist (x := 102 + (8 * s) + w) (q := (8, 102 + (8 * s) + w)) (y := v) rfl (wv15 (by decide)) (wi15 (by show _ < 237; omega)) (by show _ < 237; omega) rfl dX8_give_14 ?_
  exact aw_vret rfl (by decide) (by decide) dX8_give_15 ⟨rfl, by rw [show 102 + 8 * s + w = 101 + 8 * s + w + 1 by omega]⟩
