/-! State: what changes it; copies -/
theorem cg_upd {B : Nat → Int32} {n m x : Nat} {v : Int32} (G : cg B n m) (h0 : x ≠ 0) (h1 : x ≠ 101) (h2 : ∀ s, s < 16 → x ≠ 101 + 8 * s + 1 ∧ x ≠ 101 + 8 * s + 3) : cg (upd B x v) n m := by
  obtain ⟨g1, g2, g3, g4, g5, g6⟩ := G
  refine ⟨by rw [upd_ne _ _ (Ne.symm h0)]; exact g1, g2, by rw [upd_ne _ _ (Ne.symm h1)]; exact g3, g4, fun s hs => ?_, fun s hs => ?_⟩
  · rw [upd_ne _ _ (Ne.symm (h2 s (by omega)).1)]; exact g5 s hs
  · rw [upd_ne _ _ (Ne.symm (h2 s (by omega)).2)]; exact g6 s hs
def cs_begin (B : Nat → Int32) (l : Nat) : Nat → Int32 := upd (upd (upd (upd (upd (upd (upd (upd (upd (upd (upd (upd (cs_clear (cs_comeTo B l 0) l) (20 * l + 8 + 1) 1) (20 * l + 8 + 2) 1) (20 * l + 8 + 3) 1) (20 * l + 8 + 4) 1) (20 * l + 8 + 5) 1) (20 * l + 8 + 6) 1) (20 * l + 8 + 7) 1) (20 * l + 8 + 8) 1) (20 * l + 8 + 9) 1) (20 * l + 8 + 10) 1) (20 * l + 8 + 11) 1) (20 * l + 8 + 12) 1
theorem ct_X3_begin {ad : Nat → Nat → Nat → Nat} {o : wd_S} {j l : Nat} (hj : j < 5) (hl : l < 5) : CT ad MX3_begin [.ref (ad 1 j l)] o (RT none (wd_row o j (cs_begin (o.1 j) l))) := by
  refine CT.of (L := [some (.ref (ad 1 j l)), none]) rfl rfl (by decide) (Nat.le_of_ble_eq_true rfl) rfl ?_
  refine aw_aload_n (x := ad 1 j l) rfl dX3_begin_0 ?_
  refine aw_iconst (v := 0) (by decide) dX3_begin_1 ?_
  refine aw_rV (v := none) (o2 := (wd_row o j (cs_comeTo (o.1 j) l 0))) (ct_X3_comeTo hj hl) (mm_fit_of cbX3_comeTo (by decide) (by decide)) wq97 cvX3_comeTo (wv1 hj hl) rfl rfl rfl (Nat.le_of_ble_eq_true rfl) (by decide) (by decide) rfl dX3_begin_2 ?_
  refine aw_aload_n (x := ad 1 j l) rfl dX3_begin_5 ?_
  refine aw_rV (v := none) (o2 := (wd_row (wd_row o j (cs_comeTo (o.1 j) l 0)) j (cs_clear ((wd_row o j (cs_comeTo (o.1 j) l 0)).1 j) l))) (ct_X3_clearFault hj hl) (mm_fit_of cbX3_clearFault (by decide) (by decide)) wq101 cvX3_clearFault (wv1 hj hl) rfl rfl rfl (Nat.le_of_ble_eq_true rfl) (by decide) (by decide) rfl dX3_begin_6 ?_
  refine aw_iconst (v := 1) (by decide) dX3_begin_9 ?_
  refine aw_istore_n (L2 := [some (.ref (ad 1 j l)), some (.int 1)]) (by decide) rfl rfl dX3_begin_10 ?_
  refine aw_iload_n (x := 1) rfl dX3_begin_11 ?_
  refine aw_bipush (v := 12) (by decide) dX3_begin_12 ?_
  refine aw_icmp_gt (tgt := 30) (by decide) dX3_begin_14 (fun z => absurd z (by decide)) (fun _ => ?_)
  refine aw_aload_n (x := ad 1 j l) rfl dX3_begin_17 ?_
  refine aw_getr (q := (2, j, l)) (wv1 hj hl) rfl flX3_9 rfl rfl dX3_begin_18 ?_
  refine aw_iload_n (x := 1) rfl dX3_begin_21 ?_
  refine aw_iconst (v := 1) (by decide) dX3_begin_22 ?_
  refine aw_ist (x := 1) (q := (j, 20 * l + 8 + 1)) (y := 1) (by decide) (wv2 (j := j) (i := l) (by omega) (by omega)) rfl (Nat.le_of_ble_eq_true rfl) rfl dX3_begin_23 ?_
  refine aw_iinc (n := 1) (x := 1) (v := 2) (L2 := [some (.ref (ad 1 j l)), some (.int 2)]) rfl (by decide) (by decide) rfl rfl dX3_begin_24 ?_
  refine aw_goto (tgt := 11) (by decide) dX3_begin_27 ?_
  refine aw_iload_n (x := 2) rfl dX3_begin_11 ?_
  refine aw_bipush (v := 12) (by decide) dX3_begin_12 ?_
  refine aw_icmp_gt (tgt := 30) (by decide) dX3_begin_14 (fun z => absurd z (by decide)) (fun _ => ?_)
  refine aw_aload_n (x := ad 1 j l) rfl dX3_begin_17 ?_
  refine aw_getr (q := (2, j, l)) (wv1 hj hl) rfl flX3_9 rfl rfl dX3_begin_18 ?_
  refine aw_iload_n (x := 2) rfl dX3_begin_21 ?_
  refine aw_iconst (v := 1) (by decide) dX3_begin_22 ?_
  refine aw_ist (x := 2) (q := (j, 20 * l + 8 + 2)) (y := 1) (by decide) (wv2 (j := j) (i := l) (by omega) (by omega)) rfl (Nat.le_of_ble_eq_true rfl) rfl dX3_begin_23 ?_
  refine aw_iinc (n := 1) (x := 2) (v := 3) (L2 := [some (.ref (ad 1 j l)), some (.int 3)]) rfl (by decide) (by decide) rfl rfl dX3_begin_24 ?_
  refine aw_goto (tgt := 11) (by decide) dX3_begin_27 ?_
  refine aw_iload_n (x := 3) rfl dX3_begin_11 ?_
  refine aw_bipush (v := 12) (by decide) dX3_begin_12 ?_
  refine aw_icmp_gt (tgt := 30) (by decide) dX3_begin_14 (fun z => absurd z (by decide)) (fun _ => ?_)
  refine aw_aload_n (x := ad 1 j l) rfl dX3_begin_17 ?_
  refine aw_getr (q := (2, j, l)) (wv1 hj hl) rfl flX3_9 rfl rfl dX3_begin_18 ?_
  refine aw_iload_n (x := 3) rfl dX3_begin_21 ?_
  refine aw_iconst (v := 1) (by decide) dX3_begin_22 ?_
  refine aw_ist (x := 3) (q := (j, 20 * l + 8 + 3)) (y := 1) (by decide) (wv2 (j := j) (i := l) (by omega) (by omega)) rfl (Nat.le_of_ble_eq_true rfl) rfl dX3_begin_23 ?_
  refine aw_iinc (n := 1) (x := 3) (v := 4) (L2 := [some (.ref (ad 1 j l)), some (.int 4)]) rfl (by decide) (by decide) rfl rfl dX3_begin_24 ?_
  refine aw_goto (tgt := 11) (by decide) dX3_begin_27 ?_
  refine aw_iload_n (x := 4) rfl dX3_begin_11 ?_
  refine aw_bipush (v := 12) (by decide) dX3_begin_12 ?_
  refine aw_icmp_gt (tgt := 30) (by decide) dX3_begin_14 (fun z => absurd z (by decide)) (fun _ => ?_)
  refine aw_aload_n (x := ad 1 j l) rfl dX3_begin_17 ?_
  refine aw_getr (q := (2, j, l)) (wv1 hj hl) rfl flX3_9 rfl rfl dX3_begin_18 ?_
  refine aw_iload_n (x := 4) rfl dX3_begin_21 ?_
  refine aw_iconst (v := 1) (by decide) dX3_begin_22 ?_
  refine aw_ist (x := 4) (q := (j, 20 * l + 8 + 4)) (y := 1) (by decide) (wv2 (j := j) (i := l) (by omega) (by omega)) rfl (Nat.le_of_ble_eq_true rfl) rfl dX3_begin_23 ?_
  refine aw_iinc (n := 1) (x := 4) (v := 5) (L2 := [some (.ref (ad 1 j l)), some (.int 5)]) rfl (by decide) (by decide) rfl rfl dX3_begin_24 ?_
  refine aw_goto (tgt := 11) (by decide) dX3_begin_27 ?_
  refine aw_iload_n (x := 5) rfl dX3_begin_11 ?_
  refine aw_bipush (v := 12) (by decide) dX3_begin_12 ?_
  refine aw_icmp_gt (tgt := 30) (by decide) dX3_begin_14 (fun z => absurd z (by decide)) (fun _ => ?_)
  refine aw_aload_n (x := ad 1 j l) rfl dX3_begin_17 ?_
  refine aw_getr (q := (2, j, l)) (wv1 hj hl) rfl flX3_9 rfl rfl dX3_begin_18 ?_
  refine aw_iload_n (x := 5) rfl dX3_begin_21 ?_
  refine aw_iconst (v := 1) (by decide) dX3_begin_22 ?_
  refine aw_ist (x := 5) (q := (j, 20 * l + 8 + 5)) (y := 1) (by decide) (wv2 (j := j) (i := l) (by omega) (by omega)) rfl (Nat.le_of_ble_eq_true rfl) rfl dX3_begin_23 ?_
  refine aw_iinc (n := 1) (x := 5) (v := 6) (L2 := [some (.ref (ad 1 j l)), some (.int 6)]) rfl (by decide) (by decide) rfl rfl dX3_begin_24 ?_
  refine aw_goto (tgt := 11) (by decide) dX3_begin_27 ?_
  refine aw_iload_n (x := 6) rfl dX3_begin_11 ?_
  refine aw_bipush (v := 12) (by decide) dX3_begin_12 ?_
  refine aw_icmp_gt (tgt := 30) (by decide) dX3_begin_14 (fun z => absurd z (by decide)) (fun _ => ?_)
  refine aw_aload_n (x := ad 1 j l) rfl dX3_begin_17 ?_
  refine aw_getr (q := (2, j, l)) (wv1 hj hl) rfl flX3_9 rfl rfl dX3_begin_18 ?_
  refine aw_iload_n (x := 6) rfl dX3_begin_21 ?_
  refine aw_iconst (v := 1) (by decide) dX3_begin_22 ?_
  refine aw_ist (x := 6) (q := (j, 20 * l + 8 + 6)) (y := 1) (by decide) (wv2 (j := j) (i := l) (by omega) (by omega)) rfl (Nat.le_of_ble_eq_true rfl) rfl dX3_begin_23 ?_
  refine aw_iinc (n := 1) (x := 6) (v := 7) (L2 := [some (.ref (ad 1 j l)), some (.int 7)]) rfl (by decide) (by decide) rfl rfl dX3_begin_24 ?_
  refine aw_goto (tgt := 11) (by decide) dX3_begin_27 ?_
  refine aw_iload_n (x := 7) rfl dX3_begin_11 ?_
  refine aw_bipush (v := 12) (by decide) dX3_begin_12 ?_
  refine aw_icmp_gt (tgt := 30) (by decide) dX3_begin_14 (fun z => absurd z (by decide)) (fun _ => ?_)
  refine aw_aload_n (x := ad 1 j l) rfl dX3_begin_17 ?_
  refine aw_getr (q := (2, j, l)) (wv1 hj hl) rfl flX3_9 rfl rfl dX3_begin_18 ?_
  refine aw_iload_n (x := 7) rfl dX3_begin_21 ?_
  refine aw_iconst (v := 1) (by decide) dX3_begin_22 ?_
  refine aw_ist (x := 7) (q := (j, 20 * l + 8 + 7)) (y := 1) (by decide) (wv2 (j := j) (i := l) (by omega) (by omega)) rfl (Nat.le_of_ble_eq_true rfl) rfl dX3_begin_23 ?_
  refine aw_iinc (n := 1) (x := 7) (v := 8) (L2 := [some (.ref (ad 1 j l)), some (.int 8)]) rfl (by decide) (by decide) rfl rfl dX3_begin_24 ?_
  refine aw_goto (tgt := 11) (by decide) dX3_begin_27 ?_
  refine aw_iload_n (x := 8) rfl dX3_begin_11 ?_
  refine aw_bipush (v := 12) (by decide) dX3_begin_12 ?_
  refine aw_icmp_gt (tgt := 30) (by decide) dX3_begin_14 (fun z => absurd z (by decide)) (fun _ => ?_)
  refine aw_aload_n (x := ad 1 j l) rfl dX3_begin_17 ?_
  refine aw_getr (q := (2, j, l)) (wv1 hj hl) rfl flX3_9 rfl rfl dX3_begin_18 ?_
  refine aw_iload_n (x := 8) rfl dX3_begin_21 ?_
  refine aw_iconst (v := 1) (by decide) dX3_begin_22 ?_
  refine aw_ist (x := 8) (q := (j, 20 * l + 8 + 8)) (y := 1) (by decide) (wv2 (j := j) (i := l) (by omega) (by omega)) rfl (Nat.le_of_ble_eq_true rfl) rfl dX3_begin_23 ?_
  refine aw_iinc (n := 1) (x := 8) (v := 9) (L2 := [some (.ref (ad 1 j l)), some (.int 9)]) rfl (by decide) (by decide) rfl rfl dX3_begin_24 ?_
  refine aw_goto (tgt := 11) (by decide) dX3_begin_27 ?_
  refine aw_iload_n (x := 9) rfl dX3_begin_11 ?_
  refine aw_bipush (v := 12) (by decide) dX3_begin_12 ?_
  refine aw_icmp_gt (tgt := 30) (by decide) dX3_begin_14 (fun z => absurd z (by decide)) (fun _ => ?_)
  refine aw_aload_n (x := ad 1 j l) rfl dX3_begin_17 ?_
  refine aw_getr (q := (2, j, l)) (wv1 hj hl) rfl flX3_9 rfl rfl dX3_begin_18 ?_
  refine aw_iload_n (x := 9) rfl dX3_begin_21 ?_
  refine aw_iconst (v := 1) (by decide) dX3_begin_22 ?_
  refine aw_ist (x := 9) (q := (j, 20 * l + 8 + 9)) (y := 1) (by decide) (wv2 (j := j) (i := l) (by omega) (by omega)) rfl (Nat.le_of_ble_eq_true rfl) rfl dX3_begin_23 ?_
  refine aw_iinc (n := 1) (x := 9) (v := 10) (L2 := [some (.ref (ad 1 j l)), some (.int 10)]) rfl (by decide) (by decide) rfl rfl dX3_begin_24 ?_
  refine aw_goto (tgt := 11) (by decide) dX3_begin_27 ?_
  refine aw_iload_n (x := 10) rfl dX3_begin_11 ?_
  refine aw_bipush (v := 12) (by decide) dX3_begin_12 ?_
  refine aw_icmp_gt (tgt := 30) (by decide) dX3_begin_14 (fun z => absurd z (by decide)) (fun _ => ?_)
  refine aw_aload_n (x := ad 1 j l) rfl dX3_begin_17 ?_
  refine aw_getr (q := (2, j, l)) (wv1 hj hl) rfl flX3_9 rfl rfl dX3_begin_18 ?_
  refine aw_iload_n (x := 10) rfl dX3_begin_21 ?_
  refine aw_iconst (v := 1) (by decide) dX3_begin_22 ?_
  refine aw_ist (x := 10) (q := (j, 20 * l + 8 + 10)) (y := 1) (by decide) (wv2 (j := j) (i := l) (by omega) (by omega)) rfl (Nat.le_of_ble_eq_true rfl) rfl dX3_begin_23 ?_
  refine aw_iinc (n := 1) (x := 10) (v := 11) (L2 := [some (.ref (ad 1 j l)), some (.int 11)]) rfl (by decide) (by decide) rfl rfl dX3_begin_24 ?_
  refine aw_goto (tgt := 11) (by decide) dX3_begin_27 ?_
  refine aw_iload_n (x := 11) rfl dX3_begin_11 ?_
  refine aw_bipush (v := 12) (by decide) dX3_begin_12 ?_
  refine aw_icmp_gt (tgt := 30) (by decide) dX3_begin_14 (fun z => absurd z (by decide)) (fun _ => ?_)
  refine aw_aload_n (x := ad 1 j l) rfl dX3_begin_17 ?_
  refine aw_getr (q := (2, j, l)) (wv1 hj hl) rfl flX3_9 rfl rfl dX3_begin_18 ?_
  refine aw_iload_n (x := 11) rfl dX3_begin_21 ?_
  refine aw_iconst (v := 1) (by decide) dX3_begin_22 ?_
  refine aw_ist (x := 11) (q := (j, 20 * l + 8 + 11)) (y := 1) (by decide) (wv2 (j := j) (i := l) (by omega) (by omega)) rfl (Nat.le_of_ble_eq_true rfl) rfl dX3_begin_23 ?_
  refine aw_iinc (n := 1) (x := 11) (v := 12) (L2 := [some (.ref (ad 1 j l)), some (.int 12)]) rfl (by decide) (by decide) rfl rfl dX3_begin_24 ?_
  refine aw_goto (tgt := 11) (by decide) dX3_begin_27 ?_
  refine aw_iload_n (x := 12) rfl dX3_begin_11 ?_
  refine aw_bipush (v := 12) (by decide) dX3_begin_12 ?_
  refine aw_icmp_gt (tgt := 30) (by decide) dX3_begin_14 (fun z => absurd z (by decide)) (fun _ => ?_)
  refine aw_aload_n (x := ad 1 j l) rfl dX3_begin_17 ?_
  refine aw_getr (q := (2, j, l)) (wv1 hj hl) rfl flX3_9 rfl rfl dX3_begin_18 ?_
  refine aw_iload_n (x := 12) rfl dX3_begin_21 ?_
  refine aw_iconst (v := 1) (by decide) dX3_begin_22 ?_
  refine aw_ist (x := 12) (q := (j, 20 * l + 8 + 12)) (y := 1) (by decide) (wv2 (j := j) (i := l) (by omega) (by omega)) rfl (Nat.le_of_ble_eq_true rfl) rfl dX3_begin_23 ?_
  refine aw_iinc (n := 1) (x := 12) (v := 13) (L2 := [some (.ref (ad 1 j l)), some (.int 13)]) rfl (by decide) (by decide) rfl rfl dX3_begin_24 ?_
  refine aw_goto (tgt := 11) (by decide) dX3_begin_27 ?_
  refine aw_iload_n (x := 13) rfl dX3_begin_11 ?_
  refine aw_bipush (v := 12) (by decide) dX3_begin_12 ?_
  refine aw_icmp_gt (tgt := 30) (by decide) dX3_begin_14 (fun _ => ?_) (fun z => absurd z (by decide))
  exact aw_vret rfl (by decide) (by decide) dX3_begin_30 ⟨rfl, by first | rfl | (simp [cs_begin, wd_w_row, row_self, row_row]; done) | (simp_all [cs_begin, wd_w_row, row_self, row_row]; done)⟩
def cs_sbeg (B : Nat → Int32) (s : Nat) (h p c : Int32) : Nat → Int32 := upd (upd (upd (upd (upd (upd (upd (upd B (101 + 8 * s + 1) h) (101 + 8 * s + 2) p) (101 + 8 * s + 3) c) (101 + 8 * s + 4) 0) (101 + 8 * s + 5) 1) (101 + 8 * s + 6) 0) (101 + 8 * s + 7) 0) (101 + 8 * s + 8) 0
theorem ct_X6_begin {ad : Nat → Nat → Nat → Nat} {o : wd_S} {j s : Nat} {h p c : Int32} (hj : j < 5) (hs : s < 16) : CT ad MX6_begin [.ref (ad 3 j s), .int h, .int p, .int c] o (RT none (wd_row o j (cs_sbeg (o.1 j) s h p c))) := by
  refine CT.of (L := [some (.ref (ad 3 j s)), some (.int h), some (.int p), some (.int c)]) rfl rfl (by decide) (Nat.le_of_ble_eq_true rfl) rfl ?_
  refine aw_aload_n (x := ad 3 j s) rfl dX6_begin_0 ?_
  refine aw_iload_n (x := h) rfl dX6_begin_1 ?_
  refine aw_puti (q := (j, 101 + 8 * s + 1)) (wv3 hj hs) rfl fwX6_13 rfl rfl dX6_begin_2 ?_
  refine aw_aload_n (x := ad 3 j s) rfl dX6_begin_5 ?_
  refine aw_iload_n (x := p) rfl dX6_begin_6 ?_
  refine aw_puti (q := (j, 101 + 8 * s + 2)) (wv3 hj hs) rfl fwX6_16 rfl rfl dX6_begin_7 ?_
  refine aw_aload_n (x := ad 3 j s) rfl dX6_begin_10 ?_
  refine aw_iload_n (x := c) rfl dX6_begin_11 ?_
  refine aw_puti (q := (j, 101 + 8 * s + 3)) (wv3 hj hs) rfl fwX6_19 rfl rfl dX6_begin_12 ?_
  refine aw_aload_n (x := ad 3 j s) rfl dX6_begin_15 ?_
  refine aw_iconst (v := 0) (by decide) dX6_begin_16 ?_
  refine aw_putz (q := (j, 101 + 8 * s + 4)) (by decide) (wv3 hj hs) rfl fwX6_22 rfl rfl dX6_begin_17 ?_
  refine aw_aload_n (x := ad 3 j s) rfl dX6_begin_20 ?_
  refine aw_iconst (v := 1) (by decide) dX6_begin_21 ?_
  refine aw_puti (q := (j, 101 + 8 * s + 5)) (wv3 hj hs) rfl fwX6_26 rfl rfl dX6_begin_22 ?_
  refine aw_aload_n (x := ad 3 j s) rfl dX6_begin_25 ?_
  refine aw_iconst (v := 0) (by decide) dX6_begin_26 ?_
  refine aw_putz (q := (j, 101 + 8 * s + 6)) (by decide) (wv3 hj hs) rfl fwX6_29 rfl rfl dX6_begin_27 ?_
  refine aw_aload_n (x := ad 3 j s) rfl dX6_begin_30 ?_
  refine aw_iconst (v := 0) (by decide) dX6_begin_31 ?_
  refine aw_putz (q := (j, 101 + 8 * s + 7)) (by decide) (wv3 hj hs) rfl fwX6_32 rfl rfl dX6_begin_32 ?_
  refine aw_aload_n (x := ad 3 j s) rfl dX6_begin_35 ?_
  refine aw_iconst (v := 0) (by decide) dX6_begin_36 ?_
  refine aw_puti (q := (j, 101 + 8 * s + 8)) (wv3 hj hs) rfl fwX6_35 rfl rfl dX6_begin_37 ?_
  exact aw_vret rfl (by decide) (by decide) dX6_begin_40 ⟨rfl, by first | rfl | (simp [cs_sbeg, wd_w_row, row_self, row_row]; done) | (simp_all [cs_sbeg, wd_w_row, row_self, row_row]; done)⟩
theorem ct_X5_loopAt_c {ad : Nat → Nat → Nat → Nat} {o : wd_S} {n l : Nat} (g1 : o.1 0 0 = nI n) (g2 : n ≤ 5) (hl : l < n) : CT ad MX5_loopAt [.ref (ad 0 0 0), .int (nI l)] o (RT (some (.ref (ad 1 0 l))) o) := by
  refine CT.of (L := [some (.ref (ad 0 0 0)), some (.int (nI l))]) rfl rfl (by decide) (Nat.le_of_ble_eq_true rfl) rfl ?_
  refine aw_iload_n (x := (nI l)) rfl dX5_loopAt_0 ?_
  refine aw_if_lt (tgt := 26) (by decide) dX5_loopAt_1 (fun z => absurd z (nI_pos (by omega))) (fun _ => ?_)
  refine aw_iload_n (x := (nI l)) rfl dX5_loopAt_4 ?_
  refine aw_aload_n (x := ad 0 0 0) rfl dX5_loopAt_5 ?_
  refine aw_geti (q := (0, 0)) (x := o.1 0 0) (wv0 (by decide)) rfl rfl flX5_27 rfl (Or.inl rfl) dX5_loopAt_6 ?_
  refine aw_icmp_ge (tgt := 26) (by decide) dX5_loopAt_9 (fun z => absurd z (by rw [g1]; exact nI_ge hl (by omega))) (fun _ => ?_)
  refine aw_iload_n (x := (nI l)) rfl dX5_loopAt_12 ?_
  refine aw_iconst (v := 5) (by decide) dX5_loopAt_13 ?_
  refine aw_icmp_ge (tgt := 26) (by decide) dX5_loopAt_14 (fun z => absurd z (nI_ge (b := 5) (by omega) (by decide))) (fun _ => ?_)
  refine aw_aload_n (x := ad 0 0 0) rfl dX5_loopAt_17 ?_
  refine aw_getr (q := (5, 0, 0)) (wv0 (by decide)) rfl flX5_11 rfl rfl dX5_loopAt_18 ?_
  refine aw_iload_n (x := (nI l)) rfl dX5_loopAt_21 ?_
  refine aw_ald (x := l) (ty := 2) (q := (1, 0, l)) rfl (wv5 (j := 0) (by decide)) (wr5 (by omega)) (by show _ < 5; omega) rfl (by decide) (by decide) dX5_loopAt_22 ?_
  refine aw_goto (tgt := 27) (by decide) dX5_loopAt_23 ?_
  exact aw_aret rfl (Or.inr ⟨_, rfl⟩) (by decide) (by decide) dX5_loopAt_27 ⟨by first | rfl | (simp [wd_w_row, row_self, row_row]; done) | (simp_all [wd_w_row, row_self, row_row]; done), by first | rfl | (simp [wd_w_row, row_self, row_row]; done) | (simp_all [wd_w_row, row_self, row_row]; done)⟩
theorem ct_X5_subscriberAt_c {ad : Nat → Nat → Nat → Nat} {o : wd_S} {m s : Nat} (g3 : o.1 0 101 = nI m) (g4 : m ≤ 16) (hs : s < m) : CT ad MX5_subscriberAt [.ref (ad 0 0 0), .int (nI s)] o (RT (some (.ref (ad 3 0 s))) o) := by
  refine CT.of (L := [some (.ref (ad 0 0 0)), some (.int (nI s))]) rfl rfl (by decide) (Nat.le_of_ble_eq_true rfl) rfl ?_
  refine aw_iload_n (x := (nI s)) rfl dX5_subscriberAt_0 ?_
  refine aw_if_lt (tgt := 27) (by decide) dX5_subscriberAt_1 (fun z => absurd z (nI_pos (by omega))) (fun _ => ?_)
  refine aw_iload_n (x := (nI s)) rfl dX5_subscriberAt_4 ?_
  refine aw_aload_n (x := ad 0 0 0) rfl dX5_subscriberAt_5 ?_
  refine aw_geti (q := (0, 101)) (x := o.1 0 101) (wv0 (by decide)) rfl rfl flX5_31 rfl (Or.inl rfl) dX5_subscriberAt_6 ?_
  refine aw_icmp_ge (tgt := 27) (by decide) dX5_subscriberAt_9 (fun z => absurd z (by rw [g3]; exact nI_ge hs (by omega))) (fun _ => ?_)
  refine aw_iload_n (x := (nI s)) rfl dX5_subscriberAt_12 ?_
  refine aw_bipush (v := 16) (by decide) dX5_subscriberAt_13 ?_
  refine aw_icmp_ge (tgt := 27) (by decide) dX5_subscriberAt_15 (fun z => absurd z (nI_ge (b := 16) (by omega) (by decide))) (fun _ => ?_)
  refine aw_aload_n (x := ad 0 0 0) rfl dX5_subscriberAt_18 ?_
  refine aw_getr (q := (6, 0, 0)) (wv0 (by decide)) rfl flX5_19 rfl rfl dX5_subscriberAt_19 ?_
  refine aw_iload_n (x := (nI s)) rfl dX5_subscriberAt_22 ?_
  refine aw_ald (x := s) (ty := 3) (q := (3, 0, s)) rfl (wv6 (j := 0) (by decide)) (wr6 (by omega)) (by show _ < 16; omega) rfl (by decide) (by decide) dX5_subscriberAt_23 ?_
  refine aw_goto (tgt := 28) (by decide) dX5_subscriberAt_24 ?_
  exact aw_aret rfl (Or.inr ⟨_, rfl⟩) (by decide) (by decide) dX5_subscriberAt_28 ⟨by first | rfl | (simp [wd_w_row, row_self, row_row]; done) | (simp_all [wd_w_row, row_self, row_row]; done), by first | rfl | (simp [wd_w_row, row_self, row_row]; done) | (simp_all [wd_w_row, row_self, row_row]; done)⟩
def cs_open (B : Nat → Int32) (n : Nat) : Nat → Int32 := cs_begin (upd B 0 (nI (n + 1))) n
theorem ct_X5_openLoop {ad : Nat → Nat → Nat → Nat} {o : wd_S} {n : Nat} (g1 : o.1 0 0 = nI n) (g2 : n < 5) : CT ad MX5_openLoop [.ref (ad 0 0 0)] o (RT (some (.int (nI n))) (wd_row o 0 (cs_open (o.1 0) n))) := by
  refine CT.of (L := [some (.ref (ad 0 0 0)), none, none]) rfl rfl (by decide) (Nat.le_of_ble_eq_true rfl) rfl ?_
  refine aw_aload_n (x := ad 0 0 0) rfl dX5_openLoop_0 ?_
  refine aw_geti (q := (0, 0)) (x := nI n) (wv0 (by decide)) rfl g1 flX5_27 rfl (Or.inl rfl) dX5_openLoop_1 ?_
  refine aw_istore_n (L2 := [some (.ref (ad 0 0 0)), some (.int (nI n)), none]) (by decide) rfl rfl dX5_openLoop_4 ?_
  refine aw_aload_n (x := ad 0 0 0) rfl dX5_openLoop_5 ?_
  refine aw_dup rfl dX5_openLoop_6 ?_
  refine aw_geti (q := (0, 0)) (x := nI n) (wv0 (by decide)) rfl g1 flX5_27 rfl (Or.inl rfl) dX5_openLoop_7 ?_
  refine aw_iconst (v := 1) (by decide) dX5_openLoop_10 ?_
  refine aw_iaddz (z := nI (n + 1)) (nI_1 n) dX5_openLoop_11 ?_
  refine aw_puti (q := (0, 0)) (wv0 (by decide)) rfl fwX5_27 rfl rfl dX5_openLoop_12 ?_
  refine aw_aload_n (x := ad 0 0 0) rfl dX5_openLoop_15 ?_
  refine aw_iload_n (x := (nI n)) rfl dX5_openLoop_16 ?_
  refine aw_rV (v := some (.ref (ad 1 0 n))) (o2 := (wd_w o 0 0 (nI (n + 1)))) (ct_X5_loopAt_c (n := n + 1) (by simp [wd_get]) (by omega) (by omega)) (mm_fit_of cbX5_loopAt (by decide) (by decide)) wq334 cvX5_loopAt (wv0 (by decide)) rfl rfl rfl (Nat.le_of_ble_eq_true rfl) (by decide) (by decide) rfl dX5_openLoop_17 ?_
  refine aw_astore_n (L2 := [some (.ref (ad 0 0 0)), some (.int (nI n)), some (.ref (ad 1 0 n))]) (by decide) rfl rfl dX5_openLoop_20 ?_
  refine aw_aload_n (x := ad 1 0 n) rfl dX5_openLoop_21 ?_
  refine aw_ifnull dX5_openLoop_22 ?_
  refine aw_aload_n (x := ad 1 0 n) rfl dX5_openLoop_25 ?_
  refine aw_rV (v := none) (o2 := (wd_row (wd_w o 0 0 (nI (n + 1))) 0 (cs_begin ((wd_w o 0 0 (nI (n + 1))).1 0) n))) (ct_X3_begin (by decide) (by omega)) (mm_fit_of cbX3_begin (by decide) (by decide)) wq93 cvX3_begin (wv1 (by decide) (by omega)) rfl rfl rfl (Nat.le_of_ble_eq_true rfl) (by decide) (by decide) rfl dX5_openLoop_26 ?_
  refine aw_iload_n (x := (nI n)) rfl dX5_openLoop_29 ?_
  exact aw_iret rfl (by decide) (by decide) dX5_openLoop_30 ⟨by first | rfl | (simp [cs_open, wd_w_row, row_self, row_row]; done) | (simp_all [cs_open, wd_w_row, row_self, row_row]; done), by first | rfl | (simp [cs_open, wd_w_row, row_self, row_row]; done) | (simp_all [cs_open, wd_w_row, row_self, row_row]; done)⟩
def cs_enroll (B : Nat → Int32) (m l : Nat) (p c : Int32) : Nat → Int32 := cs_sbeg (upd B 101 (nI (m + 1))) m (nI l) p c
theorem ct_X5_enroll {ad : Nat → Nat → Nat → Nat} {o : wd_S} {m l : Nat} {p c : Int32} (g3 : o.1 0 101 = nI m) (g4 : m < 16) (hl : l < 5) : CT ad MX5_enroll [.ref (ad 0 0 0), .ref (ad 1 0 l), .int p, .int c] o (RT (some (.int (nI m))) (wd_row o 0 (cs_enroll (o.1 0) m l p c))) := by
  refine CT.of (L := [some (.ref (ad 0 0 0)), some (.ref (ad 1 0 l)), some (.int p), some (.int c), none, none]) rfl rfl (by decide) (Nat.le_of_ble_eq_true rfl) rfl ?_
  refine aw_aload_n (x := ad 0 0 0) rfl dX5_enroll_0 ?_
  refine aw_geti (q := (0, 101)) (x := nI m) (wv0 (by decide)) rfl g3 flX5_31 rfl (Or.inl rfl) dX5_enroll_1 ?_
  refine aw_istore (L2 := [some (.ref (ad 0 0 0)), some (.ref (ad 1 0 l)), some (.int p), some (.int c), some (.int (nI m)), none]) (by decide) rfl rfl dX5_enroll_4 ?_
  refine aw_aload_n (x := ad 0 0 0) rfl dX5_enroll_6 ?_
  refine aw_dup rfl dX5_enroll_7 ?_
  refine aw_geti (q := (0, 101)) (x := nI m) (wv0 (by decide)) rfl g3 flX5_31 rfl (Or.inl rfl) dX5_enroll_8 ?_
  refine aw_iconst (v := 1) (by decide) dX5_enroll_11 ?_
  refine aw_iaddz (z := nI (m + 1)) (nI_1 m) dX5_enroll_12 ?_
  refine aw_puti (q := (0, 101)) (wv0 (by decide)) rfl fwX5_31 rfl rfl dX5_enroll_13 ?_
  refine aw_aload_n (x := ad 0 0 0) rfl dX5_enroll_16 ?_
  refine aw_iload (x := (nI m)) rfl dX5_enroll_17 ?_
  refine aw_rV (v := some (.ref (ad 3 0 m))) (o2 := (wd_w o 0 101 (nI (m + 1)))) (ct_X5_subscriberAt_c (m := m + 1) (by simp [wd_get]) (by omega) (by omega)) (mm_fit_of cbX5_subscriberAt (by decide) (by decide)) wq279 cvX5_subscriberAt (wv0 (by decide)) rfl rfl rfl (Nat.le_of_ble_eq_true rfl) (by decide) (by decide) rfl dX5_enroll_19 ?_
  refine aw_astore (L2 := [some (.ref (ad 0 0 0)), some (.ref (ad 1 0 l)), some (.int p), some (.int c), some (.int (nI m)), some (.ref (ad 3 0 m))]) (by decide) rfl rfl dX5_enroll_22 ?_
  refine aw_aload (x := ad 3 0 m) rfl dX5_enroll_24 ?_
  refine aw_ifnull dX5_enroll_26 ?_
  refine aw_aload (x := ad 3 0 m) rfl dX5_enroll_29 ?_
  refine aw_aload_n (x := ad 1 0 l) rfl dX5_enroll_31 ?_
  refine aw_num (Or.inl rfl) (wv1 (by decide) hl) flX5_51 rfl rfl dX5_enroll_32 ?_
  refine aw_iload_n (x := p) rfl dX5_enroll_35 ?_
  refine aw_iload_n (x := c) rfl dX5_enroll_36 ?_
  refine aw_rV (v := none) (o2 := (wd_row (wd_w o 0 101 (nI (m + 1))) 0 (cs_sbeg ((wd_w o 0 101 (nI (m + 1))).1 0) m (nI l) p c))) (ct_X6_begin (by decide) (by omega)) (mm_fit_of cbX6_begin (by decide) (by decide)) wq511 cvX6_begin (wv3 (by decide) (by omega)) rfl rfl rfl (Nat.le_of_ble_eq_true rfl) (by decide) (by decide) rfl dX5_enroll_37 ?_
  refine aw_iload (x := (nI m)) rfl dX5_enroll_40 ?_
  exact aw_iret rfl (by decide) (by decide) dX5_enroll_42 ⟨by first | rfl | (simp [cs_enroll, wd_w_row, row_self, row_row]; done) | (simp_all [cs_enroll, wd_w_row, row_self, row_row]; done), by first | rfl | (simp [cs_enroll, wd_w_row, row_self, row_row]; done) | (simp_all [cs_enroll, wd_w_row, row_self, row_row]; done)⟩
theorem bl_code : ∀ r, r < 14 → 1 ≤ mm_bl r ∧ mm_bl r ≤ 14 := by decide
def cs_least (B : Nat → Int32) (m l i : Nat) : Int32 := if mem B m l i then B (101 + 8 * i + 5) * tc_len (mm_bl (cs_rank B m l i)) else 0
theorem lp_X5_leastCost {ad : Nat → Nat → Nat → Nat} {o : wd_S} {n m l : Nat} (G : cg (o.1 0) n m) (hl : l < 5) (hr : ∀ s, mem (o.1 0) m l s → cs_rank (o.1 0) m l s < 14) : ∀ (k i : Nat) (a : Int32), i + k = 16 → AW ad MX5_leastCostOfCodes 4 [some (.ref (ad 0 0 0)), some (.ref (ad 1 0 l)), some (.int a), some (.int (nI i)), none] [] o 0 0 (RT (some (.int (a + sumF (cs_least (o.1 0) m l) (k) (i)))) o) := by
  obtain ⟨g1, g2, g3, g4, g5, g6⟩ := id G
  intro k
  induction k with
  | zero =>
    intro i a hk
    have hi : i = 16 := by omega
    subst hi
    refine aw_iload_n (x := (nI 16)) rfl dX5_leastCostOfCodes_4 ?_
    refine aw_bipush (v := 16) (by decide) dX5_leastCostOfCodes_5 ?_
    refine aw_icmp_ge (tgt := 48) (by decide) dX5_leastCostOfCodes_7 (fun _ => ?_) (fun z => absurd (by decide) z)
    refine aw_iload_n (x := a) rfl dX5_leastCostOfCodes_48 ?_
    exact aw_iret rfl (by decide) (by decide) dX5_leastCostOfCodes_49 ⟨by first | rfl | (simp [sumF, cs_least, mem]; done) | (simp_all [sumF, cs_least, mem]; done), by first | rfl | (simp [sumF, cs_least, mem]; done) | (simp_all [sumF, cs_least, mem]; done)⟩
  | succ k ih =>
    intro i a hk
    have hi : i < 16 := by omega
    refine aw_iload_n (x := (nI i)) rfl dX5_leastCostOfCodes_4 ?_
    refine aw_bipush (v := 16) (by decide) dX5_leastCostOfCodes_5 ?_
    refine aw_icmp_ge (tgt := 48) (by decide) dX5_leastCostOfCodes_7 (fun z => absurd z (nI_ge (b := 16) hi (by decide))) (fun _ => ?_)
    refine aw_aload_n (x := ad 0 0 0) rfl dX5_leastCostOfCodes_10 ?_
    refine aw_aload_n (x := ad 1 0 l) rfl dX5_leastCostOfCodes_11 ?_
    refine aw_iload_n (x := (nI i)) rfl dX5_leastCostOfCodes_12 ?_
    by_cases q1 : mem (o.1 0) m l i
    · skip
      refine aw_rV (v := some (.ref (ad 3 0 i))) (o2 := o) (ct_X5_memberAt_some G hl q1) (mm_fit_of cbX5_memberAt (by decide) (by decide)) wq275 cvX5_memberAt (wv0 (by decide)) rfl rfl rfl (Nat.le_of_ble_eq_true rfl) (by decide) (by decide) rfl dX5_leastCostOfCodes_13 ?_
      refine aw_astore (L2 := [some (.ref (ad 0 0 0)), some (.ref (ad 1 0 l)), some (.int a), some (.int (nI i)), some (.ref (ad 3 0 i))]) (by decide) rfl rfl dX5_leastCostOfCodes_16 ?_
      refine aw_aload (x := ad 3 0 i) rfl dX5_leastCostOfCodes_18 ?_
      refine aw_ifnull dX5_leastCostOfCodes_20 ?_
      refine aw_iload_n (x := a) rfl dX5_leastCostOfCodes_23 ?_
      refine aw_aload (x := ad 3 0 i) rfl dX5_leastCostOfCodes_24 ?_
      refine aw_geti (q := (0, 101 + 8 * i + 5)) (x := o.1 0 (101 + 8 * i + 5)) (wv3 (by decide) (by omega)) rfl rfl flX5_95 rfl (Or.inl rfl) dX5_leastCostOfCodes_26 ?_
      refine aw_aload_n (x := ad 0 0 0) rfl dX5_leastCostOfCodes_29 ?_
      refine aw_aload_n (x := ad 1 0 l) rfl dX5_leastCostOfCodes_30 ?_
      refine aw_aload (x := ad 3 0 i) rfl dX5_leastCostOfCodes_31 ?_
      refine aw_rV (v := some (.int (mm_bl (cs_rank (o.1 0) m l i)))) (o2 := o) (ct_X5_bestCodeOf G hl (by omega) (hr _ q1)) (mm_fit_of cbX5_bestCodeOf (by decide) (by decide)) wq744 cvX5_bestCodeOf (wv0 (by decide)) rfl rfl rfl (Nat.le_of_ble_eq_true rfl) (by decide) (by decide) rfl dX5_leastCostOfCodes_33 ?_
      refine aw_rS (v := some (.int (tc_len (mm_bl (cs_rank (o.1 0) m l i))))) (o2 := o) (ct_X0_lengthOf (bl_code _ (hr _ q1)).1 (bl_code _ (hr _ q1)).2) (mm_fit_of cbX0_lengthOf (by decide) (by decide)) wq316 wq301 rfl rfl (Nat.le_of_ble_eq_true rfl) (by decide) (by decide) rfl dX5_leastCostOfCodes_36 ?_
      refine aw_imulz (z := (o.1 0 (101 + 8 * i + 5)) * (tc_len (mm_bl (cs_rank (o.1 0) m l i)))) rfl dX5_leastCostOfCodes_39 ?_
      refine aw_iaddz (z := a + ((o.1 0 (101 + 8 * i + 5)) * (tc_len (mm_bl (cs_rank (o.1 0) m l i))))) rfl dX5_leastCostOfCodes_40 ?_
      refine aw_istore_n (L2 := [some (.ref (ad 0 0 0)), some (.ref (ad 1 0 l)), some (.int (a + ((o.1 0 (101 + 8 * i + 5)) * (tc_len (mm_bl (cs_rank (o.1 0) m l i)))))), some (.int (nI i)), some (.ref (ad 3 0 i))]) (by decide) rfl rfl dX5_leastCostOfCodes_41 ?_
      refine aw_iinc (n := 1) (x := (nI i)) (v := nI (i + 1)) (L2 := [some (.ref (ad 0 0 0)), some (.ref (ad 1 0 l)), some (.int (a + ((o.1 0 (101 + 8 * i + 5)) * (tc_len (mm_bl (cs_rank (o.1 0) m l i)))))), some (.int (nI (i + 1))), some (.ref (ad 3 0 i))]) rfl (nI_1 i) (by decide) rfl rfl dX5_leastCostOfCodes_42 ?_
      refine aw_goto (tgt := 4) (by decide) dX5_leastCostOfCodes_45 ?_
      have e9 : (RT (some (.int (a + sumF (cs_least (o.1 0) m l) (k + 1) (i)))) o) = (RT (some (.int ((a + ((o.1 0 (101 + 8 * i + 5)) * (tc_len (mm_bl (cs_rank (o.1 0) m l i))))) + sumF (cs_least (o.1 0) m l) (k) (i + 1)))) o) := by first | (simp [sumF, cs_least, sumF_acc, mem, q1]; done) | (simp_all [sumF, cs_least, sumF_acc, mem, q1]; done)
      rw [e9]
      exact AW.locs (ih (i + 1) (a + ((o.1 0 (101 + 8 * i + 5)) * (tc_len (mm_bl (cs_rank (o.1 0) m l i))))) (by omega) ) (lsub_keep (lsub_keep (lsub_keep (lsub_keep (lsub_none lsub_nil)))))
    · skip
      refine aw_rV (v := some .null) (o2 := o) (ct_X5_memberAt_none G hl (by omega) q1) (mm_fit_of cbX5_memberAt (by decide) (by decide)) wq275 cvX5_memberAt (wv0 (by decide)) rfl rfl rfl (Nat.le_of_ble_eq_true rfl) (by decide) (by decide) rfl dX5_leastCostOfCodes_13 ?_
      refine aw_astoreN (L2 := [some (.ref (ad 0 0 0)), some (.ref (ad 1 0 l)), some (.int a), some (.int (nI i)), some (.null)]) (by decide) rfl rfl dX5_leastCostOfCodes_16 ?_
      refine aw_aloadN rfl dX5_leastCostOfCodes_18 ?_
      refine aw_ifnullN (tgt := 42) (by decide) dX5_leastCostOfCodes_20 ?_
      refine aw_iinc (n := 1) (x := (nI i)) (v := nI (i + 1)) (L2 := [some (.ref (ad 0 0 0)), some (.ref (ad 1 0 l)), some (.int a), some (.int (nI (i + 1))), some (.null)]) rfl (nI_1 i) (by decide) rfl rfl dX5_leastCostOfCodes_42 ?_
      refine aw_goto (tgt := 4) (by decide) dX5_leastCostOfCodes_45 ?_
      have e9 : (RT (some (.int (a + sumF (cs_least (o.1 0) m l) (k + 1) (i)))) o) = (RT (some (.int (a + sumF (cs_least (o.1 0) m l) (k) (i + 1)))) o) := by first | (simp [sumF, cs_least, sumF_acc, mem, q1]; done) | (simp_all [sumF, cs_least, sumF_acc, mem, q1]; done)
      rw [e9]
      exact AW.locs (ih (i + 1) a (by omega) ) (lsub_keep (lsub_keep (lsub_keep (lsub_keep (lsub_none lsub_nil)))))
theorem ct_X5_leastCost {ad : Nat → Nat → Nat → Nat} {o : wd_S} {n m l : Nat} (G : cg (o.1 0) n m) (hl : l < 5) (hr : ∀ s, mem (o.1 0) m l s → cs_rank (o.1 0) m l s < 14) : CT ad MX5_leastCostOfCodes [.ref (ad 0 0 0), .ref (ad 1 0 l)] o (RT (some (.int (sumF (cs_least (o.1 0) m l) 16 0))) o) := by
  refine CT.of (L := [some (.ref (ad 0 0 0)), some (.ref (ad 1 0 l)), none, none, none]) rfl rfl (by decide) (Nat.le_of_ble_eq_true rfl) rfl ?_
  refine aw_iconst (v := 0) (by decide) dX5_leastCostOfCodes_0 ?_
  refine aw_istore_n (L2 := [some (.ref (ad 0 0 0)), some (.ref (ad 1 0 l)), some (.int 0), none, none]) (by decide) rfl rfl dX5_leastCostOfCodes_1 ?_
  refine aw_iconst (v := 0) (by decide) dX5_leastCostOfCodes_2 ?_
  refine aw_istore_n (L2 := [some (.ref (ad 0 0 0)), some (.ref (ad 1 0 l)), some (.int 0), some (.int 0), none]) (by decide) rfl rfl dX5_leastCostOfCodes_3 ?_
  exact AW.post (AW.locs (lp_X5_leastCost G hl hr 16 0 0 (by decide)) (lsub_keep (lsub_keep (lsub_keep (lsub_keep (lsub_keep lsub_nil)))))) (fun r o2 q => by simpa [] using q)
def cs_give (m l : Nat) : Nat → Nat → (Nat → Int32) → Nat → Int32
  | 0, _, B => B
  | k + 1, i, B => cs_give m l k (i + 1) (if mem B m l i then upd B (101 + 8 * i + 3) (mm_bl (cs_rank B m l i)) else B)
def cs_given (m l : Nat) : Nat → Nat → (Nat → Int32) → Int32
  | 0, _, _ => 0
  | k + 1, i, B => (if mem B m l i then (if B (101 + 8 * i + 3) ≠ mm_bl (cs_rank B m l i) then 1 else 0) else 0) + cs_given m l k (i + 1) (if mem B m l i then upd B (101 + 8 * i + 3) (mm_bl (cs_rank B m l i)) else B)
theorem cs_rank_code (B : Nat → Int32) (m l t i : Nat) (v : Int32) : cs_rank (upd B (101 + 8 * i + 3) v) m l t = cs_rank B m l t := by
  have h : cs_ahead (upd B (101 + 8 * i + 3) v) m l t = cs_ahead B m l t := by
    funext x
    have e1 : upd B (101 + 8 * i + 3) v (101 + 8 * x + 1) = B (101 + 8 * x + 1) := upd_ne _ _ (by omega)
    have e2 : upd B (101 + 8 * i + 3) v (101 + 8 * x + 5) = B (101 + 8 * x + 5) := upd_ne _ _ (by omega)
    have e3 : upd B (101 + 8 * i + 3) v (101 + 8 * t + 5) = B (101 + 8 * t + 5) := upd_ne _ _ (by omega)
    rw [Bool.eq_iff_iff]
    simp [cs_ahead, mem, cs_bef, e1, e2, e3]
  unfold cs_rank
  rw [h]
theorem cg_code {B : Nat → Int32} {n m i r : Nat} (G : cg B n m) (hr : r < 14) : cg (upd B (101 + 8 * i + 3) (mm_bl r)) n m := by
  obtain ⟨g1, g2, g3, g4, g5, g6⟩ := G
  refine ⟨by rw [upd_ne _ _ (by omega)]; exact g1, g2, by rw [upd_ne _ _ (by omega)]; exact g3, g4, fun s hs => ?_, fun s hs => ?_⟩
  · rw [upd_ne _ _ (by omega)]; exact g5 s hs
  · by_cases h : s = i
    · subst h; rw [upd_self]; exact bl_code r hr
    · rw [upd_ne _ _ (by omega)]; exact g6 s hs
theorem lp_X5_give {ad : Nat → Nat → Nat → Nat} {n m l : Nat} (hl : l < 5) : ∀ (k i : Nat) (o : wd_S) (a : Int32), i + k = 16 → (cg (o.1 0) n m) → (∀ s, mem (o.1 0) m l s → cs_rank (o.1 0) m l s < 14) → AW ad MX5_giveBestCodes 4 [some (.ref (ad 0 0 0)), some (.ref (ad 1 0 l)), some (.int a), some (.int (nI i)), none, none] [] o 0 0 (RT (some (.int (a + cs_given m l (k) (i) (o.1 0)))) (wd_row o 0 (cs_give m l (k) (i) (o.1 0)))) := by
  intro k
  induction k with
  | zero =>
    intro i o a hk G hr
    have hi : i = 16 := by omega
    subst hi
    have g4 := G.2.2.2.1
    refine aw_iload_n (x := (nI 16)) rfl dX5_giveBestCodes_4 ?_
    refine aw_bipush (v := 16) (by decide) dX5_giveBestCodes_5 ?_
    refine aw_icmp_ge (tgt := 63) (by decide) dX5_giveBestCodes_7 (fun _ => ?_) (fun z => absurd (by decide) z)
    refine aw_iload_n (x := a) rfl dX5_giveBestCodes_63 ?_
    exact aw_iret rfl (by decide) (by decide) dX5_giveBestCodes_64 ⟨by first | rfl | (simp [cs_given, cs_give, row_id, mem]; done) | (simp_all [cs_given, cs_give, row_id, mem]; done), by first | rfl | (simp [cs_given, cs_give, row_id, mem]; done) | (simp_all [cs_given, cs_give, row_id, mem]; done)⟩
  | succ k ih =>
    intro i o a hk G hr
    have hi : i < 16 := by omega
    have g4 := G.2.2.2.1
    refine aw_iload_n (x := (nI i)) rfl dX5_giveBestCodes_4 ?_
    refine aw_bipush (v := 16) (by decide) dX5_giveBestCodes_5 ?_
    refine aw_icmp_ge (tgt := 63) (by decide) dX5_giveBestCodes_7 (fun z => absurd z (nI_ge (b := 16) hi (by decide))) (fun _ => ?_)
    refine aw_aload_n (x := ad 0 0 0) rfl dX5_giveBestCodes_10 ?_
    refine aw_aload_n (x := ad 1 0 l) rfl dX5_giveBestCodes_11 ?_
    refine aw_iload_n (x := (nI i)) rfl dX5_giveBestCodes_12 ?_
    by_cases q1 : mem (o.1 0) m l i
    · skip
      refine aw_rV (v := some (.ref (ad 3 0 i))) (o2 := o) (ct_X5_memberAt_some G hl q1) (mm_fit_of cbX5_memberAt (by decide) (by decide)) wq275 cvX5_memberAt (wv0 (by decide)) rfl rfl rfl (Nat.le_of_ble_eq_true rfl) (by decide) (by decide) rfl dX5_giveBestCodes_13 ?_
      refine aw_astore (L2 := [some (.ref (ad 0 0 0)), some (.ref (ad 1 0 l)), some (.int a), some (.int (nI i)), some (.ref (ad 3 0 i)), none]) (by decide) rfl rfl dX5_giveBestCodes_16 ?_
      refine aw_aload (x := ad 3 0 i) rfl dX5_giveBestCodes_18 ?_
      refine aw_ifnull dX5_giveBestCodes_20 ?_
      refine aw_aload_n (x := ad 0 0 0) rfl dX5_giveBestCodes_23 ?_
      refine aw_aload_n (x := ad 1 0 l) rfl dX5_giveBestCodes_24 ?_
      refine aw_aload (x := ad 3 0 i) rfl dX5_giveBestCodes_25 ?_
      refine aw_rV (v := some (.int (mm_bl (cs_rank (o.1 0) m l i)))) (o2 := o) (ct_X5_bestCodeOf G hl (by omega) (hr _ q1)) (mm_fit_of cbX5_bestCodeOf (by decide) (by decide)) wq744 cvX5_bestCodeOf (wv0 (by decide)) rfl rfl rfl (Nat.le_of_ble_eq_true rfl) (by decide) (by decide) rfl dX5_giveBestCodes_27 ?_
      refine aw_istore (L2 := [some (.ref (ad 0 0 0)), some (.ref (ad 1 0 l)), some (.int a), some (.int (nI i)), some (.ref (ad 3 0 i)), some (.int (mm_bl (cs_rank (o.1 0) m l i)))]) (by decide) rfl rfl dX5_giveBestCodes_30 ?_
      refine aw_iload_n (x := a) rfl dX5_giveBestCodes_32 ?_
      refine aw_aload (x := ad 3 0 i) rfl dX5_giveBestCodes_33 ?_
      refine aw_geti (q := (0, 101 + 8 * i + 3)) (x := o.1 0 (101 + 8 * i + 3)) (wv3 (by decide) (by omega)) rfl rfl flX5_65 rfl (Or.inl rfl) dX5_giveBestCodes_35 ?_
      refine aw_iload (x := (mm_bl (cs_rank (o.1 0) m l i))) rfl dX5_giveBestCodes_38 ?_
      refine aw_icmp_ne (tgt := 47) (by decide) dX5_giveBestCodes_40 (fun b2 => ?_) (fun b2 => ?_)
      · skip
        refine aw_iconst (v := 1) (by decide) dX5_giveBestCodes_47 ?_
        refine aw_iaddz (z := a + 1) rfl dX5_giveBestCodes_48 ?_
        refine aw_istore_n (L2 := [some (.ref (ad 0 0 0)), some (.ref (ad 1 0 l)), some (.int (a + 1)), some (.int (nI i)), some (.ref (ad 3 0 i)), some (.int (mm_bl (cs_rank (o.1 0) m l i)))]) (by decide) rfl rfl dX5_giveBestCodes_49 ?_
        refine aw_aload (x := ad 3 0 i) rfl dX5_giveBestCodes_50 ?_
        refine aw_iload (x := (mm_bl (cs_rank (o.1 0) m l i))) rfl dX5_giveBestCodes_52 ?_
        refine aw_puti (q := (0, 101 + 8 * i + 3)) (wv3 (by decide) (by omega)) rfl fwX5_65 rfl rfl dX5_giveBestCodes_54 ?_
        refine aw_iinc (n := 1) (x := (nI i)) (v := nI (i + 1)) (L2 := [some (.ref (ad 0 0 0)), some (.ref (ad 1 0 l)), some (.int (a + 1)), some (.int (nI (i + 1))), some (.ref (ad 3 0 i)), some (.int (mm_bl (cs_rank (o.1 0) m l i)))]) rfl (nI_1 i) (by decide) rfl rfl dX5_giveBestCodes_57 ?_
        refine aw_goto (tgt := 4) (by decide) dX5_giveBestCodes_60 ?_
        have e9 : (RT (some (.int (a + cs_given m l (k + 1) (i) (o.1 0)))) (wd_row o 0 (cs_give m l (k + 1) (i) (o.1 0)))) = (RT (some (.int ((a + 1) + cs_given m l (k) (i + 1) ((wd_w o 0 (101 + 8 * i + 3) (mm_bl (cs_rank (o.1 0) m l i))).1 0)))) (wd_row (wd_w o 0 (101 + 8 * i + 3) (mm_bl (cs_rank (o.1 0) m l i))) 0 (cs_give m l (k) (i + 1) ((wd_w o 0 (101 + 8 * i + 3) (mm_bl (cs_rank (o.1 0) m l i))).1 0)))) := by first | (simp [cs_given, cs_give, wd_w_row, row_self, row_row, sumF_acc, mem, q1, b2]; done) | (simp_all [cs_given, cs_give, wd_w_row, row_self, row_row, sumF_acc, mem, q1, b2]; done)
        rw [e9]
        exact AW.locs (ih (i + 1) (wd_w o 0 (101 + 8 * i + 3) (mm_bl (cs_rank (o.1 0) m l i))) (a + 1) (by omega) (by (try simp only [wd_w_row, row_self]); first | exact cg_code G (hr i (by assumption)) | exact G) (by (try simp only [wd_w_row, row_self]); first | (intro s hs; rw [cs_rank_code]; exact hr s ⟨hs.1, by have h9 := hs.2; rwa [upd_ne _ _ (by omega)] at h9⟩) | exact hr)) (lsub_keep (lsub_keep (lsub_keep (lsub_keep (lsub_none (lsub_none lsub_nil))))))
      · skip
        refine aw_iconst (v := 0) (by decide) dX5_giveBestCodes_43 ?_
        refine aw_goto (tgt := 48) (by decide) dX5_giveBestCodes_44 ?_
        refine aw_iaddz (z := a + 0) rfl dX5_giveBestCodes_48 ?_
        refine aw_istore_n (L2 := [some (.ref (ad 0 0 0)), some (.ref (ad 1 0 l)), some (.int (a + 0)), some (.int (nI i)), some (.ref (ad 3 0 i)), some (.int (mm_bl (cs_rank (o.1 0) m l i)))]) (by decide) rfl rfl dX5_giveBestCodes_49 ?_
        refine aw_aload (x := ad 3 0 i) rfl dX5_giveBestCodes_50 ?_
        refine aw_iload (x := (mm_bl (cs_rank (o.1 0) m l i))) rfl dX5_giveBestCodes_52 ?_
        refine aw_puti (q := (0, 101 + 8 * i + 3)) (wv3 (by decide) (by omega)) rfl fwX5_65 rfl rfl dX5_giveBestCodes_54 ?_
        refine aw_iinc (n := 1) (x := (nI i)) (v := nI (i + 1)) (L2 := [some (.ref (ad 0 0 0)), some (.ref (ad 1 0 l)), some (.int (a + 0)), some (.int (nI (i + 1))), some (.ref (ad 3 0 i)), some (.int (mm_bl (cs_rank (o.1 0) m l i)))]) rfl (nI_1 i) (by decide) rfl rfl dX5_giveBestCodes_57 ?_
        refine aw_goto (tgt := 4) (by decide) dX5_giveBestCodes_60 ?_
        have e9 : (RT (some (.int (a + cs_given m l (k + 1) (i) (o.1 0)))) (wd_row o 0 (cs_give m l (k + 1) (i) (o.1 0)))) = (RT (some (.int ((a + 0) + cs_given m l (k) (i + 1) ((wd_w o 0 (101 + 8 * i + 3) (mm_bl (cs_rank (o.1 0) m l i))).1 0)))) (wd_row (wd_w o 0 (101 + 8 * i + 3) (mm_bl (cs_rank (o.1 0) m l i))) 0 (cs_give m l (k) (i + 1) ((wd_w o 0 (101 + 8 * i + 3) (mm_bl (cs_rank (o.1 0) m l i))).1 0)))) := by first | (simp [cs_given, cs_give, wd_w_row, row_self, row_row, sumF_acc, mem, q1, b2]; done) | (simp_all [cs_given, cs_give, wd_w_row, row_self, row_row, sumF_acc, mem, q1, b2]; done)
        rw [e9]
        exact AW.locs (ih (i + 1) (wd_w o 0 (101 + 8 * i + 3) (mm_bl (cs_rank (o.1 0) m l i))) (a + 0) (by omega) (by (try simp only [wd_w_row, row_self]); first | exact cg_code G (hr i (by assumption)) | exact G) (by (try simp only [wd_w_row, row_self]); first | (intro s hs; rw [cs_rank_code]; exact hr s ⟨hs.1, by have h9 := hs.2; rwa [upd_ne _ _ (by omega)] at h9⟩) | exact hr)) (lsub_keep (lsub_keep (lsub_keep (lsub_keep (lsub_none (lsub_none lsub_nil))))))
    · skip
      refine aw_rV (v := some .null) (o2 := o) (ct_X5_memberAt_none G hl (by omega) q1) (mm_fit_of cbX5_memberAt (by decide) (by decide)) wq275 cvX5_memberAt (wv0 (by decide)) rfl rfl rfl (Nat.le_of_ble_eq_true rfl) (by decide) (by decide) rfl dX5_giveBestCodes_13 ?_
      refine aw_astoreN (L2 := [some (.ref (ad 0 0 0)), some (.ref (ad 1 0 l)), some (.int a), some (.int (nI i)), some (.null), none]) (by decide) rfl rfl dX5_giveBestCodes_16 ?_
      refine aw_aloadN rfl dX5_giveBestCodes_18 ?_
      refine aw_ifnullN (tgt := 57) (by decide) dX5_giveBestCodes_20 ?_
      refine aw_iinc (n := 1) (x := (nI i)) (v := nI (i + 1)) (L2 := [some (.ref (ad 0 0 0)), some (.ref (ad 1 0 l)), some (.int a), some (.int (nI (i + 1))), some (.null), none]) rfl (nI_1 i) (by decide) rfl rfl dX5_giveBestCodes_57 ?_
      refine aw_goto (tgt := 4) (by decide) dX5_giveBestCodes_60 ?_
      have e9 : (RT (some (.int (a + cs_given m l (k + 1) (i) (o.1 0)))) (wd_row o 0 (cs_give m l (k + 1) (i) (o.1 0)))) = (RT (some (.int (a + cs_given m l (k) (i + 1) (o.1 0)))) (wd_row o 0 (cs_give m l (k) (i + 1) (o.1 0)))) := by first | (simp [cs_given, cs_give, wd_w_row, row_self, row_row, sumF_acc, mem, q1]; done) | (simp_all [cs_given, cs_give, wd_w_row, row_self, row_row, sumF_acc, mem, q1]; done)
      rw [e9]
      exact AW.locs (ih (i + 1) o a (by omega) (by (try simp only [wd_w_row, row_self]); first | exact cg_code G (hr i (by assumption)) | exact G) (by (try simp only [wd_w_row, row_self]); first | (intro s hs; rw [cs_rank_code]; exact hr s ⟨hs.1, by have h9 := hs.2; rwa [upd_ne _ _ (by omega)] at h9⟩) | exact hr)) (lsub_keep (lsub_keep (lsub_keep (lsub_keep (lsub_none (lsub_keep lsub_nil))))))
theorem ct_X5_give {ad : Nat → Nat → Nat → Nat} {o : wd_S} {n m l : Nat} (G : cg (o.1 0) n m) (hl : l < 5) (hr : ∀ s, mem (o.1 0) m l s → cs_rank (o.1 0) m l s < 14) : CT ad MX5_giveBestCodes [.ref (ad 0 0 0), .ref (ad 1 0 l)] o (RT (some (.int (cs_given m l 16 0 (o.1 0)))) (wd_row o 0 (cs_give m l 16 0 (o.1 0)))) := by
  refine CT.of (L := [some (.ref (ad 0 0 0)), some (.ref (ad 1 0 l)), none, none, none, none]) rfl rfl (by decide) (Nat.le_of_ble_eq_true rfl) rfl ?_
  refine aw_iconst (v := 0) (by decide) dX5_giveBestCodes_0 ?_
  refine aw_istore_n (L2 := [some (.ref (ad 0 0 0)), some (.ref (ad 1 0 l)), some (.int 0), none, none, none]) (by decide) rfl rfl dX5_giveBestCodes_1 ?_
  refine aw_iconst (v := 0) (by decide) dX5_giveBestCodes_2 ?_
  refine aw_istore_n (L2 := [some (.ref (ad 0 0 0)), some (.ref (ad 1 0 l)), some (.int 0), some (.int 0), none, none]) (by decide) rfl rfl dX5_giveBestCodes_3 ?_
  exact AW.post (AW.locs (lp_X5_give hl 16 0 o 0 (by decide) G hr) (lsub_keep (lsub_keep (lsub_keep (lsub_keep (lsub_keep (lsub_keep lsub_nil))))))) (fun r o2 q => by simpa [] using q)
