/-! Loop: a loop's fields by its row: 20 * l + 1 phase, 2 timer, 3 first, 4 second, 5 other end, 6 caller, 7 span, 8 short, 8 + k the risk of span k -/
def cs_comeTo (B : Nat → Int32) (l : Nat) (p : Int32) : Nat → Int32 :=
  let B1 := upd (upd (upd B (20 * l + 1) p) (20 * l + 2) 0) (20 * l + 6) 0
  let B2 := if p = 0 then upd B1 (20 * l + 3) (-1) else B1
  let B3 := if p ≥ 6 then B2 else upd B2 (20 * l + 4) (-1)
  if p < 2 then upd B3 (20 * l + 5) (-1) else if p ≤ 4 then B3 else upd B3 (20 * l + 5) (-1)
theorem ct_X3_comeTo {ad : Nat → Nat → Nat → Nat} {o : wd_S} {j l : Nat} {p : Int32} (hj : j < 5) (hl : l < 5) : CT ad MX3_comeTo [.ref (ad 1 j l), .int p] o (RT none (wd_row o j (cs_comeTo (o.1 j) l p))) := by
  refine CT.of (L := [some (.ref (ad 1 j l)), some (.int p)]) rfl rfl (by decide) (Nat.le_of_ble_eq_true rfl) rfl ?_
  refine aw_aload_n (x := ad 1 j l) rfl dX3_comeTo_0 ?_
  refine aw_iload_n (x := p) rfl dX3_comeTo_1 ?_
  refine aw_puti (q := (j, 20 * l + 1)) (wv1 hj hl) rfl fwX3_26 rfl rfl dX3_comeTo_2 ?_
  refine aw_aload_n (x := ad 1 j l) rfl dX3_comeTo_5 ?_
  refine aw_iconst (v := 0) (by decide) dX3_comeTo_6 ?_
  refine aw_puti (q := (j, 20 * l + 2)) (wv1 hj hl) rfl fwX3_29 rfl rfl dX3_comeTo_7 ?_
  refine aw_aload_n (x := ad 1 j l) rfl dX3_comeTo_10 ?_
  refine aw_iconst (v := 0) (by decide) dX3_comeTo_11 ?_
  refine aw_putz (q := (j, 20 * l + 6)) (by decide) (wv1 hj hl) rfl fwX3_32 rfl rfl dX3_comeTo_12 ?_
  refine aw_iload_n (x := p) rfl dX3_comeTo_15 ?_
  refine aw_if_ne (tgt := 24) (by decide) dX3_comeTo_16 (fun b1 => ?_) (fun b1 => ?_)
  · skip
    refine aw_iload_n (x := p) rfl dX3_comeTo_24 ?_
    refine aw_bipush (v := 6) (by decide) dX3_comeTo_25 ?_
    refine aw_icmp_ge (tgt := 35) (by decide) dX3_comeTo_27 (fun b2 => ?_) (fun b2 => ?_)
    · skip
      refine aw_iload_n (x := p) rfl dX3_comeTo_35 ?_
      refine aw_iconst (v := 2) (by decide) dX3_comeTo_36 ?_
      refine aw_icmp_lt (tgt := 45) (by decide) dX3_comeTo_37 (fun b3 => ?_) (fun b3 => ?_)
      · skip
        refine aw_aload_n (x := ad 1 j l) rfl dX3_comeTo_45 ?_
        refine aw_iconst (v := (-1)) (by decide) dX3_comeTo_46 ?_
        refine aw_puti (q := (j, 20 * l + 5)) (wv1 hj hl) rfl fwX3_42 rfl rfl dX3_comeTo_47 ?_
        exact aw_vret rfl (by decide) (by decide) dX3_comeTo_50 ⟨rfl, by first | rfl | (simp [cs_comeTo, wd_w_row, row_self, row_row, b1, b2, b3]; done) | (simp_all [cs_comeTo, wd_w_row, row_self, row_row, b1, b2, b3]; done)⟩
      · skip
        refine aw_iload_n (x := p) rfl dX3_comeTo_40 ?_
        refine aw_iconst (v := 4) (by decide) dX3_comeTo_41 ?_
        refine aw_icmp_le (tgt := 50) (by decide) dX3_comeTo_42 (fun b4 => ?_) (fun b4 => ?_)
        · skip
          exact aw_vret rfl (by decide) (by decide) dX3_comeTo_50 ⟨rfl, by first | rfl | (simp [cs_comeTo, wd_w_row, row_self, row_row, b1, b2, b3, b4]; done) | (simp_all [cs_comeTo, wd_w_row, row_self, row_row, b1, b2, b3, b4]; done)⟩
        · skip
          refine aw_aload_n (x := ad 1 j l) rfl dX3_comeTo_45 ?_
          refine aw_iconst (v := (-1)) (by decide) dX3_comeTo_46 ?_
          refine aw_puti (q := (j, 20 * l + 5)) (wv1 hj hl) rfl fwX3_42 rfl rfl dX3_comeTo_47 ?_
          exact aw_vret rfl (by decide) (by decide) dX3_comeTo_50 ⟨rfl, by first | rfl | (simp [cs_comeTo, wd_w_row, row_self, row_row, b1, b2, b3, b4]; done) | (simp_all [cs_comeTo, wd_w_row, row_self, row_row, b1, b2, b3, b4]; done)⟩
    · skip
      refine aw_aload_n (x := ad 1 j l) rfl dX3_comeTo_30 ?_
      refine aw_iconst (v := (-1)) (by decide) dX3_comeTo_31 ?_
      refine aw_puti (q := (j, 20 * l + 4)) (wv1 hj hl) rfl fwX3_39 rfl rfl dX3_comeTo_32 ?_
      refine aw_iload_n (x := p) rfl dX3_comeTo_35 ?_
      refine aw_iconst (v := 2) (by decide) dX3_comeTo_36 ?_
      refine aw_icmp_lt (tgt := 45) (by decide) dX3_comeTo_37 (fun b5 => ?_) (fun b5 => ?_)
      · skip
        refine aw_aload_n (x := ad 1 j l) rfl dX3_comeTo_45 ?_
        refine aw_iconst (v := (-1)) (by decide) dX3_comeTo_46 ?_
        refine aw_puti (q := (j, 20 * l + 5)) (wv1 hj hl) rfl fwX3_42 rfl rfl dX3_comeTo_47 ?_
        exact aw_vret rfl (by decide) (by decide) dX3_comeTo_50 ⟨rfl, by first | rfl | (simp [cs_comeTo, wd_w_row, row_self, row_row, b1, b2, b5]; done) | (simp_all [cs_comeTo, wd_w_row, row_self, row_row, b1, b2, b5]; done)⟩
      · skip
        refine aw_iload_n (x := p) rfl dX3_comeTo_40 ?_
        refine aw_iconst (v := 4) (by decide) dX3_comeTo_41 ?_
        refine aw_icmp_le (tgt := 50) (by decide) dX3_comeTo_42 (fun b6 => ?_) (fun b6 => ?_)
        · skip
          exact aw_vret rfl (by decide) (by decide) dX3_comeTo_50 ⟨rfl, by first | rfl | (simp [cs_comeTo, wd_w_row, row_self, row_row, b1, b2, b5, b6]; done) | (simp_all [cs_comeTo, wd_w_row, row_self, row_row, b1, b2, b5, b6]; done)⟩
        · skip
          refine aw_aload_n (x := ad 1 j l) rfl dX3_comeTo_45 ?_
          refine aw_iconst (v := (-1)) (by decide) dX3_comeTo_46 ?_
          refine aw_puti (q := (j, 20 * l + 5)) (wv1 hj hl) rfl fwX3_42 rfl rfl dX3_comeTo_47 ?_
          exact aw_vret rfl (by decide) (by decide) dX3_comeTo_50 ⟨rfl, by first | rfl | (simp [cs_comeTo, wd_w_row, row_self, row_row, b1, b2, b5, b6]; done) | (simp_all [cs_comeTo, wd_w_row, row_self, row_row, b1, b2, b5, b6]; done)⟩
  · skip
    refine aw_aload_n (x := ad 1 j l) rfl dX3_comeTo_19 ?_
    refine aw_iconst (v := (-1)) (by decide) dX3_comeTo_20 ?_
    refine aw_puti (q := (j, 20 * l + 3)) (wv1 hj hl) rfl fwX3_36 rfl rfl dX3_comeTo_21 ?_
    refine aw_iload_n (x := p) rfl dX3_comeTo_24 ?_
    refine aw_bipush (v := 6) (by decide) dX3_comeTo_25 ?_
    refine aw_icmp_ge (tgt := 35) (by decide) dX3_comeTo_27 (fun b7 => ?_) (fun b7 => ?_)
    · skip
      refine aw_iload_n (x := p) rfl dX3_comeTo_35 ?_
      refine aw_iconst (v := 2) (by decide) dX3_comeTo_36 ?_
      refine aw_icmp_lt (tgt := 45) (by decide) dX3_comeTo_37 (fun b8 => ?_) (fun b8 => ?_)
      · skip
        refine aw_aload_n (x := ad 1 j l) rfl dX3_comeTo_45 ?_
        refine aw_iconst (v := (-1)) (by decide) dX3_comeTo_46 ?_
        refine aw_puti (q := (j, 20 * l + 5)) (wv1 hj hl) rfl fwX3_42 rfl rfl dX3_comeTo_47 ?_
        exact aw_vret rfl (by decide) (by decide) dX3_comeTo_50 ⟨rfl, by first | rfl | (simp [cs_comeTo, wd_w_row, row_self, row_row, b1, b7, b8]; done) | (simp_all [cs_comeTo, wd_w_row, row_self, row_row, b1, b7, b8]; done)⟩
      · skip
        refine aw_iload_n (x := p) rfl dX3_comeTo_40 ?_
        refine aw_iconst (v := 4) (by decide) dX3_comeTo_41 ?_
        refine aw_icmp_le (tgt := 50) (by decide) dX3_comeTo_42 (fun b9 => ?_) (fun b9 => ?_)
        · skip
          exact aw_vret rfl (by decide) (by decide) dX3_comeTo_50 ⟨rfl, by first | rfl | (simp [cs_comeTo, wd_w_row, row_self, row_row, b1, b7, b8, b9]; done) | (simp_all [cs_comeTo, wd_w_row, row_self, row_row, b1, b7, b8, b9]; done)⟩
        · skip
          refine aw_aload_n (x := ad 1 j l) rfl dX3_comeTo_45 ?_
          refine aw_iconst (v := (-1)) (by decide) dX3_comeTo_46 ?_
          refine aw_puti (q := (j, 20 * l + 5)) (wv1 hj hl) rfl fwX3_42 rfl rfl dX3_comeTo_47 ?_
          exact aw_vret rfl (by decide) (by decide) dX3_comeTo_50 ⟨rfl, by first | rfl | (simp [cs_comeTo, wd_w_row, row_self, row_row, b1, b7, b8, b9]; done) | (simp_all [cs_comeTo, wd_w_row, row_self, row_row, b1, b7, b8, b9]; done)⟩
    · skip
      refine aw_aload_n (x := ad 1 j l) rfl dX3_comeTo_30 ?_
      refine aw_iconst (v := (-1)) (by decide) dX3_comeTo_31 ?_
      refine aw_puti (q := (j, 20 * l + 4)) (wv1 hj hl) rfl fwX3_39 rfl rfl dX3_comeTo_32 ?_
      refine aw_iload_n (x := p) rfl dX3_comeTo_35 ?_
      refine aw_iconst (v := 2) (by decide) dX3_comeTo_36 ?_
      refine aw_icmp_lt (tgt := 45) (by decide) dX3_comeTo_37 (fun b10 => ?_) (fun b10 => ?_)
      · skip
        refine aw_aload_n (x := ad 1 j l) rfl dX3_comeTo_45 ?_
        refine aw_iconst (v := (-1)) (by decide) dX3_comeTo_46 ?_
        refine aw_puti (q := (j, 20 * l + 5)) (wv1 hj hl) rfl fwX3_42 rfl rfl dX3_comeTo_47 ?_
        exact aw_vret rfl (by decide) (by decide) dX3_comeTo_50 ⟨rfl, by first | rfl | (simp [cs_comeTo, wd_w_row, row_self, row_row, b1, b7, b10]; done) | (simp_all [cs_comeTo, wd_w_row, row_self, row_row, b1, b7, b10]; done)⟩
      · skip
        refine aw_iload_n (x := p) rfl dX3_comeTo_40 ?_
        refine aw_iconst (v := 4) (by decide) dX3_comeTo_41 ?_
        refine aw_icmp_le (tgt := 50) (by decide) dX3_comeTo_42 (fun b11 => ?_) (fun b11 => ?_)
        · skip
          exact aw_vret rfl (by decide) (by decide) dX3_comeTo_50 ⟨rfl, by first | rfl | (simp [cs_comeTo, wd_w_row, row_self, row_row, b1, b7, b10, b11]; done) | (simp_all [cs_comeTo, wd_w_row, row_self, row_row, b1, b7, b10, b11]; done)⟩
        · skip
          refine aw_aload_n (x := ad 1 j l) rfl dX3_comeTo_45 ?_
          refine aw_iconst (v := (-1)) (by decide) dX3_comeTo_46 ?_
          refine aw_puti (q := (j, 20 * l + 5)) (wv1 hj hl) rfl fwX3_42 rfl rfl dX3_comeTo_47 ?_
          exact aw_vret rfl (by decide) (by decide) dX3_comeTo_50 ⟨rfl, by first | rfl | (simp [cs_comeTo, wd_w_row, row_self, row_row, b1, b7, b10, b11]; done) | (simp_all [cs_comeTo, wd_w_row, row_self, row_row, b1, b7, b10, b11]; done)⟩
theorem ct_X3_comeToWith {ad : Nat → Nat → Nat → Nat} {o : wd_S} {j l : Nat} {p f : Int32} (hj : j < 5) (hl : l < 5) : CT ad MX3_comeToWith [.ref (ad 1 j l), .int p, .int f] o (RT none (wd_row o j (cs_comeTo (upd (o.1 j) (20 * l + 3) f) l p))) := by
  refine CT.of (L := [some (.ref (ad 1 j l)), some (.int p), some (.int f)]) rfl rfl (by decide) (Nat.le_of_ble_eq_true rfl) rfl ?_
  refine aw_aload_n (x := ad 1 j l) rfl dX3_comeToWith_0 ?_
  refine aw_iload_n (x := f) rfl dX3_comeToWith_1 ?_
  refine aw_puti (q := (j, 20 * l + 3)) (wv1 hj hl) rfl fwX3_36 rfl rfl dX3_comeToWith_2 ?_
  refine aw_aload_n (x := ad 1 j l) rfl dX3_comeToWith_5 ?_
  refine aw_iload_n (x := p) rfl dX3_comeToWith_6 ?_
  refine aw_rV (v := none) (o2 := (wd_row (wd_w o j (20 * l + 3) f) j (cs_comeTo ((wd_w o j (20 * l + 3) f).1 j) l p))) (ct_X3_comeTo hj hl) (mm_fit_of cbX3_comeTo (by decide) (by decide)) wq97 cvX3_comeTo (wv1 hj hl) rfl rfl rfl (Nat.le_of_ble_eq_true rfl) (by decide) (by decide) rfl dX3_comeToWith_7 ?_
  exact aw_vret rfl (by decide) (by decide) dX3_comeToWith_10 ⟨rfl, by first | rfl | (simp [wd_w_row, row_self, row_row]; done) | (simp_all [wd_w_row, row_self, row_row]; done)⟩
def cs_rung (B : Nat → Int32) (l : Nat) : Int32 := if B (20 * l + 1) = 3 then 1 else if B (20 * l + 1) = 7 then 1 else 0
theorem ct_X3_isRung {ad : Nat → Nat → Nat → Nat} {o : wd_S} {j l : Nat} (hj : j < 5) (hl : l < 5) : CT ad MX3_isRung [.ref (ad 1 j l)] o (RT (some (.int (cs_rung (o.1 j) l))) o) := by
  refine CT.of (L := [some (.ref (ad 1 j l))]) rfl rfl (by decide) (Nat.le_of_ble_eq_true rfl) rfl ?_
  refine aw_aload_n (x := ad 1 j l) rfl dX3_isRung_0 ?_
  refine aw_geti (q := (j, 20 * l + 1)) (x := o.1 j (20 * l + 1)) (wv1 hj hl) rfl rfl flX3_26 rfl (Or.inl rfl) dX3_isRung_1 ?_
  refine aw_iconst (v := 3) (by decide) dX3_isRung_4 ?_
  refine aw_icmp_eq (tgt := 17) (by decide) dX3_isRung_5 (fun b1 => ?_) (fun b1 => ?_)
  · skip
    refine aw_iconst (v := 1) (by decide) dX3_isRung_17 ?_
    refine aw_goto (tgt := 22) (by decide) dX3_isRung_18 ?_
    exact aw_zret rfl (by decide) (by decide) (by decide) dX3_isRung_22 ⟨by first | rfl | (simp [cs_rung, wd_w_row, row_self, row_row, b1]; done) | (simp_all [cs_rung, wd_w_row, row_self, row_row, b1]; done), by first | rfl | (simp [cs_rung, wd_w_row, row_self, row_row, b1]; done) | (simp_all [cs_rung, wd_w_row, row_self, row_row, b1]; done)⟩
  · skip
    refine aw_aload_n (x := ad 1 j l) rfl dX3_isRung_8 ?_
    refine aw_geti (q := (j, 20 * l + 1)) (x := o.1 j (20 * l + 1)) (wv1 hj hl) rfl rfl flX3_26 rfl (Or.inl rfl) dX3_isRung_9 ?_
    refine aw_bipush (v := 7) (by decide) dX3_isRung_12 ?_
    refine aw_icmp_ne (tgt := 21) (by decide) dX3_isRung_14 (fun b2 => ?_) (fun b2 => ?_)
    · skip
      refine aw_iconst (v := 0) (by decide) dX3_isRung_21 ?_
      exact aw_zret rfl (by decide) (by decide) (by decide) dX3_isRung_22 ⟨by first | rfl | (simp [cs_rung, wd_w_row, row_self, row_row, b1, b2]; done) | (simp_all [cs_rung, wd_w_row, row_self, row_row, b1, b2]; done), by first | rfl | (simp [cs_rung, wd_w_row, row_self, row_row, b1, b2]; done) | (simp_all [cs_rung, wd_w_row, row_self, row_row, b1, b2]; done)⟩
    · skip
      refine aw_iconst (v := 1) (by decide) dX3_isRung_17 ?_
      refine aw_goto (tgt := 22) (by decide) dX3_isRung_18 ?_
      exact aw_zret rfl (by decide) (by decide) (by decide) dX3_isRung_22 ⟨by first | rfl | (simp [cs_rung, wd_w_row, row_self, row_row, b1, b2]; done) | (simp_all [cs_rung, wd_w_row, row_self, row_row, b1, b2]; done), by first | rfl | (simp [cs_rung, wd_w_row, row_self, row_row, b1, b2]; done) | (simp_all [cs_rung, wd_w_row, row_self, row_row, b1, b2]; done)⟩
def cs_flt (B : Nat → Int32) (l : Nat) : Int32 := if B (20 * l + 7) = -1 then 0 else 1
theorem ct_X3_hasFault {ad : Nat → Nat → Nat → Nat} {o : wd_S} {j l : Nat} (hj : j < 5) (hl : l < 5) : CT ad MX3_hasFault [.ref (ad 1 j l)] o (RT (some (.int (cs_flt (o.1 j) l))) o) := by
  refine CT.of (L := [some (.ref (ad 1 j l))]) rfl rfl (by decide) (Nat.le_of_ble_eq_true rfl) rfl ?_
  refine aw_aload_n (x := ad 1 j l) rfl dX3_hasFault_0 ?_
  refine aw_geti (q := (j, 20 * l + 7)) (x := o.1 j (20 * l + 7)) (wv1 hj hl) rfl rfl flX3_45 rfl (Or.inl rfl) dX3_hasFault_1 ?_
  refine aw_iconst (v := (-1)) (by decide) dX3_hasFault_4 ?_
  refine aw_icmp_eq (tgt := 12) (by decide) dX3_hasFault_5 (fun b1 => ?_) (fun b1 => ?_)
  · skip
    refine aw_iconst (v := 0) (by decide) dX3_hasFault_12 ?_
    exact aw_zret rfl (by decide) (by decide) (by decide) dX3_hasFault_13 ⟨by first | rfl | (simp [cs_flt, wd_w_row, row_self, row_row, b1]; done) | (simp_all [cs_flt, wd_w_row, row_self, row_row, b1]; done), by first | rfl | (simp [cs_flt, wd_w_row, row_self, row_row, b1]; done) | (simp_all [cs_flt, wd_w_row, row_self, row_row, b1]; done)⟩
  · skip
    refine aw_iconst (v := 1) (by decide) dX3_hasFault_8 ?_
    refine aw_goto (tgt := 13) (by decide) dX3_hasFault_9 ?_
    exact aw_zret rfl (by decide) (by decide) (by decide) dX3_hasFault_13 ⟨by first | rfl | (simp [cs_flt, wd_w_row, row_self, row_row, b1]; done) | (simp_all [cs_flt, wd_w_row, row_self, row_row, b1]; done), by first | rfl | (simp [cs_flt, wd_w_row, row_self, row_row, b1]; done) | (simp_all [cs_flt, wd_w_row, row_self, row_row, b1]; done)⟩
def cs_clear (B : Nat → Int32) (l : Nat) : Nat → Int32 := upd (upd B (20 * l + 7) (-1)) (20 * l + 8) 0
theorem ct_X3_clearFault {ad : Nat → Nat → Nat → Nat} {o : wd_S} {j l : Nat} (hj : j < 5) (hl : l < 5) : CT ad MX3_clearFault [.ref (ad 1 j l)] o (RT none (wd_row o j (cs_clear (o.1 j) l))) := by
  refine CT.of (L := [some (.ref (ad 1 j l))]) rfl rfl (by decide) (Nat.le_of_ble_eq_true rfl) rfl ?_
  refine aw_aload_n (x := ad 1 j l) rfl dX3_clearFault_0 ?_
  refine aw_iconst (v := (-1)) (by decide) dX3_clearFault_1 ?_
  refine aw_puti (q := (j, 20 * l + 7)) (wv1 hj hl) rfl fwX3_45 rfl rfl dX3_clearFault_2 ?_
  refine aw_aload_n (x := ad 1 j l) rfl dX3_clearFault_5 ?_
  refine aw_iconst (v := 0) (by decide) dX3_clearFault_6 ?_
  refine aw_putz (q := (j, 20 * l + 8)) (by decide) (wv1 hj hl) rfl fwX3_48 rfl rfl dX3_clearFault_7 ?_
  exact aw_vret rfl (by decide) (by decide) dX3_clearFault_10 ⟨rfl, by first | rfl | (simp [cs_clear, wd_w_row, row_self, row_row]; done) | (simp_all [cs_clear, wd_w_row, row_self, row_row]; done)⟩
def cs_cuts (B : Nat → Int32) (l s : Nat) : Int32 := if cs_flt B l = 0 then 0 else if B (20 * l + 8) ≠ 0 then 1 else if B (101 + 8 * s + 2) < B (20 * l + 7) then 0 else 1
theorem ct_X3_cutsOff {ad : Nat → Nat → Nat → Nat} {o : wd_S} {j l s : Nat} (hj : j < 5) (hl : l < 5) (hs : s < 16) : CT ad MX3_cutsOff [.ref (ad 1 j l), .ref (ad 3 j s)] o (RT (some (.int (cs_cuts (o.1 j) l s))) o) := by
  refine CT.of (L := [some (.ref (ad 1 j l)), some (.ref (ad 3 j s))]) rfl rfl (by decide) (Nat.le_of_ble_eq_true rfl) rfl ?_
  refine aw_aload_n (x := ad 1 j l) rfl dX3_cutsOff_0 ?_
  refine aw_rV (v := some (.int (cs_flt (o.1 j) l))) (o2 := o) (ct_X3_hasFault hj hl) (mm_fit_of cbX3_hasFault (by decide) (by decide)) wq339 cvX3_hasFault (wv1 hj hl) rfl rfl rfl (Nat.le_of_ble_eq_true rfl) (by decide) (by decide) rfl dX3_cutsOff_1 ?_
  refine aw_if_eq (tgt := 29) (by decide) dX3_cutsOff_4 (fun b1 => ?_) (fun b1 => ?_)
  · skip
    refine aw_iconst (v := 0) (by decide) dX3_cutsOff_29 ?_
    exact aw_zret rfl (by decide) (by decide) (by decide) dX3_cutsOff_30 ⟨by first | rfl | (simp [cs_cuts, wd_w_row, row_self, row_row, b1]; done) | (simp_all [cs_cuts, wd_w_row, row_self, row_row, b1]; done), by first | rfl | (simp [cs_cuts, wd_w_row, row_self, row_row, b1]; done) | (simp_all [cs_cuts, wd_w_row, row_self, row_row, b1]; done)⟩
  · skip
    refine aw_aload_n (x := ad 1 j l) rfl dX3_cutsOff_7 ?_
    refine aw_geti (q := (j, 20 * l + 8)) (x := o.1 j (20 * l + 8)) (wv1 hj hl) rfl rfl flX3_48 rfl (Or.inr rfl) dX3_cutsOff_8 ?_
    refine aw_if_ne (tgt := 25) (by decide) dX3_cutsOff_11 (fun b2 => ?_) (fun b2 => ?_)
    · skip
      refine aw_iconst (v := 1) (by decide) dX3_cutsOff_25 ?_
      refine aw_goto (tgt := 30) (by decide) dX3_cutsOff_26 ?_
      exact aw_zret rfl (by decide) (by decide) (by decide) dX3_cutsOff_30 ⟨by first | rfl | (simp [cs_cuts, wd_w_row, row_self, row_row, b1, b2]; done) | (simp_all [cs_cuts, wd_w_row, row_self, row_row, b1, b2]; done), by first | rfl | (simp [cs_cuts, wd_w_row, row_self, row_row, b1, b2]; done) | (simp_all [cs_cuts, wd_w_row, row_self, row_row, b1, b2]; done)⟩
    · skip
      refine aw_aload_n (x := ad 3 j s) rfl dX3_cutsOff_14 ?_
      refine aw_geti (q := (j, 101 + 8 * s + 2)) (x := o.1 j (101 + 8 * s + 2)) (wv3 hj hs) rfl rfl flX3_55 rfl (Or.inl rfl) dX3_cutsOff_15 ?_
      refine aw_aload_n (x := ad 1 j l) rfl dX3_cutsOff_18 ?_
      refine aw_geti (q := (j, 20 * l + 7)) (x := o.1 j (20 * l + 7)) (wv1 hj hl) rfl rfl flX3_45 rfl (Or.inl rfl) dX3_cutsOff_19 ?_
      refine aw_icmp_lt (tgt := 29) (by decide) dX3_cutsOff_22 (fun b3 => ?_) (fun b3 => ?_)
      · skip
        refine aw_iconst (v := 0) (by decide) dX3_cutsOff_29 ?_
        exact aw_zret rfl (by decide) (by decide) (by decide) dX3_cutsOff_30 ⟨by first | rfl | (simp [cs_cuts, wd_w_row, row_self, row_row, b1, b2, b3]; done) | (simp_all [cs_cuts, wd_w_row, row_self, row_row, b1, b2, b3]; done), by first | rfl | (simp [cs_cuts, wd_w_row, row_self, row_row, b1, b2, b3]; done) | (simp_all [cs_cuts, wd_w_row, row_self, row_row, b1, b2, b3]; done)⟩
      · skip
        refine aw_iconst (v := 1) (by decide) dX3_cutsOff_25 ?_
        refine aw_goto (tgt := 30) (by decide) dX3_cutsOff_26 ?_
        exact aw_zret rfl (by decide) (by decide) (by decide) dX3_cutsOff_30 ⟨by first | rfl | (simp [cs_cuts, wd_w_row, row_self, row_row, b1, b2, b3]; done) | (simp_all [cs_cuts, wd_w_row, row_self, row_row, b1, b2, b3]; done), by first | rfl | (simp [cs_cuts, wd_w_row, row_self, row_row, b1, b2, b3]; done) | (simp_all [cs_cuts, wd_w_row, row_self, row_row, b1, b2, b3]; done)⟩
