/-! Codes: lengths, rings and sounds of the codes 1 to 14, code by code -/
def tc_len (c : Int32) : Int32 := ([0, 5, 7, 7, 9, 9, 11, 9, 11, 11, 13, 11, 13, 13, 15] : List Int32).getD c.toNatClampNeg 0
def tc_n (c : Int32) : Int32 := ([0, 1, 1, 2, 2, 2, 2, 3, 3, 3, 3, 3, 3, 3, 3] : List Int32).getD c.toNatClampNeg 0
def tc_ring (c r : Int32) : Int32 := (([[], [0], [1], [0, 0], [0, 1], [1, 0], [1, 1], [0, 0, 0], [0, 0, 1], [0, 1, 0], [0, 1, 1], [1, 0, 0], [1, 0, 1], [1, 1, 0], [1, 1, 1]] : List (List Int32)).getD c.toNatClampNeg []).getD r.toNatClampNeg 0
def tc_s1 (t : Int32) : Int32 := if t < 0 then 0 else if t ≥ 1 then 0 else 1
def tc_s2 (t : Int32) : Int32 := if t < 0 then 0 else if t ≥ 3 then 0 else 2
def tc_s3 (t : Int32) : Int32 := if t < 0 then if t < 2 then 0 else if t ≥ 3 then 0 else 1 else if t ≥ 1 then if t < 2 then 0 else if t ≥ 3 then 0 else 1 else 1
def tc_s4 (t : Int32) : Int32 := if t < 0 then if t < 2 then 0 else if t ≥ 5 then 0 else 2 else if t ≥ 1 then if t < 2 then 0 else if t ≥ 5 then 0 else 2 else 1
def tc_s5 (t : Int32) : Int32 := if t < 0 then if t < 4 then 0 else if t ≥ 5 then 0 else 1 else if t ≥ 3 then if t < 4 then 0 else if t ≥ 5 then 0 else 1 else 2
def tc_s6 (t : Int32) : Int32 := if t < 0 then if t < 4 then 0 else if t ≥ 7 then 0 else 2 else if t ≥ 3 then if t < 4 then 0 else if t ≥ 7 then 0 else 2 else 2
def tc_s7 (t : Int32) : Int32 := if t < 0 then if t < 2 then if t < 4 then 0 else if t ≥ 5 then 0 else 1 else if t ≥ 3 then if t < 4 then 0 else if t ≥ 5 then 0 else 1 else 1 else if t ≥ 1 then if t < 2 then if t < 4 then 0 else if t ≥ 5 then 0 else 1 else if t ≥ 3 then if t < 4 then 0 else if t ≥ 5 then 0 else 1 else 1 else 1
def tc_s8 (t : Int32) : Int32 := if t < 0 then if t < 2 then if t < 4 then 0 else if t ≥ 7 then 0 else 2 else if t ≥ 3 then if t < 4 then 0 else if t ≥ 7 then 0 else 2 else 1 else if t ≥ 1 then if t < 2 then if t < 4 then 0 else if t ≥ 7 then 0 else 2 else if t ≥ 3 then if t < 4 then 0 else if t ≥ 7 then 0 else 2 else 1 else 1
def tc_s9 (t : Int32) : Int32 := if t < 0 then if t < 2 then if t < 6 then 0 else if t ≥ 7 then 0 else 1 else if t ≥ 5 then if t < 6 then 0 else if t ≥ 7 then 0 else 1 else 2 else if t ≥ 1 then if t < 2 then if t < 6 then 0 else if t ≥ 7 then 0 else 1 else if t ≥ 5 then if t < 6 then 0 else if t ≥ 7 then 0 else 1 else 2 else 1
def tc_s10 (t : Int32) : Int32 := if t < 0 then if t < 2 then if t < 6 then 0 else if t ≥ 9 then 0 else 2 else if t ≥ 5 then if t < 6 then 0 else if t ≥ 9 then 0 else 2 else 2 else if t ≥ 1 then if t < 2 then if t < 6 then 0 else if t ≥ 9 then 0 else 2 else if t ≥ 5 then if t < 6 then 0 else if t ≥ 9 then 0 else 2 else 2 else 1
def tc_s11 (t : Int32) : Int32 := if t < 0 then if t < 4 then if t < 6 then 0 else if t ≥ 7 then 0 else 1 else if t ≥ 5 then if t < 6 then 0 else if t ≥ 7 then 0 else 1 else 1 else if t ≥ 3 then if t < 4 then if t < 6 then 0 else if t ≥ 7 then 0 else 1 else if t ≥ 5 then if t < 6 then 0 else if t ≥ 7 then 0 else 1 else 1 else 2
def tc_s12 (t : Int32) : Int32 := if t < 0 then if t < 4 then if t < 6 then 0 else if t ≥ 9 then 0 else 2 else if t ≥ 5 then if t < 6 then 0 else if t ≥ 9 then 0 else 2 else 1 else if t ≥ 3 then if t < 4 then if t < 6 then 0 else if t ≥ 9 then 0 else 2 else if t ≥ 5 then if t < 6 then 0 else if t ≥ 9 then 0 else 2 else 1 else 2
def tc_s13 (t : Int32) : Int32 := if t < 0 then if t < 4 then if t < 8 then 0 else if t ≥ 9 then 0 else 1 else if t ≥ 7 then if t < 8 then 0 else if t ≥ 9 then 0 else 1 else 2 else if t ≥ 3 then if t < 4 then if t < 8 then 0 else if t ≥ 9 then 0 else 1 else if t ≥ 7 then if t < 8 then 0 else if t ≥ 9 then 0 else 1 else 2 else 2
def tc_s14 (t : Int32) : Int32 := if t < 0 then if t < 4 then if t < 8 then 0 else if t ≥ 11 then 0 else 2 else if t ≥ 7 then if t < 8 then 0 else if t ≥ 11 then 0 else 2 else 2 else if t ≥ 3 then if t < 4 then if t < 8 then 0 else if t ≥ 11 then 0 else 2 else if t ≥ 7 then if t < 8 then 0 else if t ≥ 11 then 0 else 2 else 2 else 2
def tc_snd (c t : Int32) : Int32 := if c = 1 then tc_s1 t else if c = 2 then tc_s2 t else if c = 3 then tc_s3 t else if c = 4 then tc_s4 t else if c = 5 then tc_s5 t else if c = 6 then tc_s6 t else if c = 7 then tc_s7 t else if c = 8 then tc_s8 t else if c = 9 then tc_s9 t else if c = 10 then tc_s10 t else if c = 11 then tc_s11 t else if c = 12 then tc_s12 t else if c = 13 then tc_s13 t else if c = 14 then tc_s14 t else 0
theorem tc_cases {c : Int32} (h1 : 1 ≤ c) (h2 : c ≤ 14) : c = 1 ∨ c = 2 ∨ c = 3 ∨ c = 4 ∨ c = 5 ∨ c = 6 ∨ c = 7 ∨ c = 8 ∨ c = 9 ∨ c = 10 ∨ c = 11 ∨ c = 12 ∨ c = 13 ∨ c = 14 := by
  have e1 : (1 : Int32).toInt = 1 := by decide
  have e0 : (0 : Int32).toInt = 0 := by decide
  have h0 : ¬ c < 0 := by
    rw [Int32.le_iff_toInt_le] at h1
    rw [Int32.lt_iff_toInt_lt]
    omega
  obtain ⟨j, hj, rfl⟩ := nI_of2 (M := 14) (n := 14) (by decide) h0 h2
  have h0 : j ≠ 0 := fun e => by subst e; revert h1; decide
  rcases (show j = 1 ∨ j = 2 ∨ j = 3 ∨ j = 4 ∨ j = 5 ∨ j = 6 ∨ j = 7 ∨ j = 8 ∨ j = 9 ∨ j = 10 ∨ j = 11 ∨ j = 12 ∨ j = 13 ∨ j = 14 by omega) with rfl | rfl | rfl | rfl | rfl | rfl | rfl | rfl | rfl | rfl | rfl | rfl | rfl | rfl <;> decide
theorem ct_X0_ringCount_1 {ad : Nat → Nat → Nat → Nat} {o : wd_S}  : CT ad MX0_ringCount [.int 1] o (RT (some (.int 1)) o) := by
  refine CT.of (L := [some (.int 1), none]) rfl rfl (by decide) (Nat.le_of_ble_eq_true rfl) rfl ?_
  refine aw_iconst (v := 0) (by decide) dX0_ringCount_0 ?_
  refine aw_istore_n (L2 := [some (.int 1), some (.int 0)]) (by decide) rfl rfl dX0_ringCount_1 ?_
  refine aw_iload_n (x := 0) rfl dX0_ringCount_2 ?_
  refine aw_iconst (v := 3) (by decide) dX0_ringCount_3 ?_
  refine aw_icmp_ge (tgt := 23) (by decide) dX0_ringCount_4 (fun z => absurd z (by decide)) (fun _ => ?_)
  refine aw_iload_n (x := 1) rfl dX0_ringCount_7 ?_
  refine aw_iconst (v := 1) (by decide) dX0_ringCount_8 ?_
  refine aw_iaddz (z := 2) (by decide) dX0_ringCount_9 ?_
  refine aw_iload_n (x := 0) rfl dX0_ringCount_10 ?_
  refine aw_iconst (v := 1) (by decide) dX0_ringCount_11 ?_
  refine aw_iaddz (z := 1) (by decide) dX0_ringCount_12 ?_
  refine aw_ishrz (z := 1) (by decide) dX0_ringCount_13 ?_
  refine aw_if_eq (tgt := 23) (by decide) dX0_ringCount_14 (fun z => absurd z (by decide)) (fun _ => ?_)
  refine aw_iinc (x := 0) (v := 1) (L2 := [some (.int 1), some (.int 1)]) rfl (by decide) (by decide) rfl rfl dX0_ringCount_17 ?_
  refine aw_goto (tgt := 2) (by decide) dX0_ringCount_20 ?_
  refine aw_iload_n (x := 1) rfl dX0_ringCount_2 ?_
  refine aw_iconst (v := 3) (by decide) dX0_ringCount_3 ?_
  refine aw_icmp_ge (tgt := 23) (by decide) dX0_ringCount_4 (fun z => absurd z (by decide)) (fun _ => ?_)
  refine aw_iload_n (x := 1) rfl dX0_ringCount_7 ?_
  refine aw_iconst (v := 1) (by decide) dX0_ringCount_8 ?_
  refine aw_iaddz (z := 2) (by decide) dX0_ringCount_9 ?_
  refine aw_iload_n (x := 1) rfl dX0_ringCount_10 ?_
  refine aw_iconst (v := 1) (by decide) dX0_ringCount_11 ?_
  refine aw_iaddz (z := 2) (by decide) dX0_ringCount_12 ?_
  refine aw_ishrz (z := 0) (by decide) dX0_ringCount_13 ?_
  refine aw_if_eq (tgt := 23) (by decide) dX0_ringCount_14 (fun _ => ?_) (fun z => absurd z (by decide))
  refine aw_iload_n (x := 1) rfl dX0_ringCount_23 ?_
  exact aw_iret rfl (by decide) (by decide) dX0_ringCount_24 ⟨by first | rfl | (simp [wd_w_row, row_self, row_row]; done) | (simp_all [wd_w_row, row_self, row_row]; done), by first | rfl | (simp [wd_w_row, row_self, row_row]; done) | (simp_all [wd_w_row, row_self, row_row]; done)⟩
theorem ct_X0_isLong_1_0 {ad : Nat → Nat → Nat → Nat} {o : wd_S}  : CT ad MX0_isLong [.int 1, .int 0] o (RT (some (.int 0)) o) := by
  refine CT.of (L := [some (.int 1), some (.int 0), none]) rfl rfl (by decide) (Nat.le_of_ble_eq_true rfl) rfl ?_
  refine aw_iload_n (x := 1) rfl dX0_isLong_0 ?_
  refine aw_rS (v := some (.int 1)) (o2 := o) ct_X0_ringCount_1 (mm_fit_of cbX0_ringCount (by decide) (by decide)) wq303 wq304 rfl rfl (Nat.le_of_ble_eq_true rfl) (by decide) (by decide) rfl dX0_isLong_1 ?_
  refine aw_iconst (v := 1) (by decide) dX0_isLong_4 ?_
  refine aw_isubz (z := 0) (by decide) dX0_isLong_5 ?_
  refine aw_iload_n (x := 0) rfl dX0_isLong_6 ?_
  refine aw_isubz (z := 0) (by decide) dX0_isLong_7 ?_
  refine aw_istore_n (L2 := [some (.int 1), some (.int 0), some (.int 0)]) (by decide) rfl rfl dX0_isLong_8 ?_
  refine aw_iload_n (x := 1) rfl dX0_isLong_9 ?_
  refine aw_iconst (v := 1) (by decide) dX0_isLong_10 ?_
  refine aw_iaddz (z := 2) (by decide) dX0_isLong_11 ?_
  refine aw_iload_n (x := 0) rfl dX0_isLong_12 ?_
  refine aw_ishrz (z := 2) (by decide) dX0_isLong_13 ?_
  refine aw_iconst (v := 1) (by decide) dX0_isLong_14 ?_
  refine aw_iandz (z := 0) (by decide) dX0_isLong_15 ?_
  refine aw_iconst (v := 1) (by decide) dX0_isLong_16 ?_
  refine aw_icmp_ne (tgt := 24) (by decide) dX0_isLong_17 (fun _ => ?_) (fun z => absurd z (by decide))
  refine aw_iconst (v := 0) (by decide) dX0_isLong_24 ?_
  exact aw_zret rfl (by decide) (by decide) (by decide) dX0_isLong_25 ⟨by first | rfl | (simp [wd_w_row, row_self, row_row]; done) | (simp_all [wd_w_row, row_self, row_row]; done), by first | rfl | (simp [wd_w_row, row_self, row_row]; done) | (simp_all [wd_w_row, row_self, row_row]; done)⟩
theorem ct_X0_lengthOf_1 {ad : Nat → Nat → Nat → Nat} {o : wd_S}  : CT ad MX0_lengthOf [.int 1] o (RT (some (.int 5)) o) := by
  refine CT.of (L := [some (.int 1), none, none, none]) rfl rfl (by decide) (Nat.le_of_ble_eq_true rfl) rfl ?_
  refine aw_iload_n (x := 1) rfl dX0_lengthOf_0 ?_
  refine aw_rS (v := some (.int 1)) (o2 := o) ct_X0_ringCount_1 (mm_fit_of cbX0_ringCount (by decide) (by decide)) wq303 wq304 rfl rfl (Nat.le_of_ble_eq_true rfl) (by decide) (by decide) rfl dX0_lengthOf_1 ?_
  refine aw_istore_n (L2 := [some (.int 1), some (.int 1), none, none]) (by decide) rfl rfl dX0_lengthOf_4 ?_
  refine aw_iload_n (x := 1) rfl dX0_lengthOf_5 ?_
  refine aw_iconst (v := 1) (by decide) dX0_lengthOf_6 ?_
  refine aw_isubz (z := 0) (by decide) dX0_lengthOf_7 ?_
  refine aw_iconst (v := 1) (by decide) dX0_lengthOf_8 ?_
  refine aw_imulz (z := 0) (by decide) dX0_lengthOf_9 ?_
  refine aw_iconst (v := 4) (by decide) dX0_lengthOf_10 ?_
  refine aw_iaddz (z := 4) (by decide) dX0_lengthOf_11 ?_
  refine aw_istore_n (L2 := [some (.int 1), some (.int 1), some (.int 4), none]) (by decide) rfl rfl dX0_lengthOf_12 ?_
  refine aw_iconst (v := 0) (by decide) dX0_lengthOf_13 ?_
  refine aw_istore_n (L2 := [some (.int 1), some (.int 1), some (.int 4), some (.int 0)]) (by decide) rfl rfl dX0_lengthOf_14 ?_
  refine aw_iload_n (x := 0) rfl dX0_lengthOf_15 ?_
  refine aw_iload_n (x := 1) rfl dX0_lengthOf_16 ?_
  refine aw_icmp_ge (tgt := 45) (by decide) dX0_lengthOf_17 (fun z => absurd z (by decide)) (fun _ => ?_)
  refine aw_iload_n (x := 4) rfl dX0_lengthOf_20 ?_
  refine aw_iload_n (x := 1) rfl dX0_lengthOf_21 ?_
  refine aw_iconst (v := 1) (by decide) dX0_lengthOf_22 ?_
  refine aw_iaddz (z := 2) (by decide) dX0_lengthOf_23 ?_
  refine aw_iload_n (x := 0) rfl dX0_lengthOf_24 ?_
  refine aw_ishrz (z := 2) (by decide) dX0_lengthOf_25 ?_
  refine aw_iconst (v := 1) (by decide) dX0_lengthOf_26 ?_
  refine aw_iandz (z := 0) (by decide) dX0_lengthOf_27 ?_
  refine aw_iconst (v := 1) (by decide) dX0_lengthOf_28 ?_
  refine aw_icmp_ne (tgt := 36) (by decide) dX0_lengthOf_29 (fun _ => ?_) (fun z => absurd z (by decide))
  refine aw_iconst (v := 1) (by decide) dX0_lengthOf_36 ?_
  refine aw_iaddz (z := 5) (by decide) dX0_lengthOf_37 ?_
  refine aw_istore_n (L2 := [some (.int 1), some (.int 1), some (.int 5), some (.int 0)]) (by decide) rfl rfl dX0_lengthOf_38 ?_
  refine aw_iinc (x := 0) (v := 1) (L2 := [some (.int 1), some (.int 1), some (.int 5), some (.int 1)]) rfl (by decide) (by decide) rfl rfl dX0_lengthOf_39 ?_
  refine aw_goto (tgt := 15) (by decide) dX0_lengthOf_42 ?_
  refine aw_iload_n (x := 1) rfl dX0_lengthOf_15 ?_
  refine aw_iload_n (x := 1) rfl dX0_lengthOf_16 ?_
  refine aw_icmp_ge (tgt := 45) (by decide) dX0_lengthOf_17 (fun _ => ?_) (fun z => absurd z (by decide))
  refine aw_iload_n (x := 5) rfl dX0_lengthOf_45 ?_
  exact aw_iret rfl (by decide) (by decide) dX0_lengthOf_46 ⟨by first | rfl | (simp [wd_w_row, row_self, row_row]; done) | (simp_all [wd_w_row, row_self, row_row]; done), by first | rfl | (simp [wd_w_row, row_self, row_row]; done) | (simp_all [wd_w_row, row_self, row_row]; done)⟩
theorem ct_X0_soundAt_1 {ad : Nat → Nat → Nat → Nat} {o : wd_S} {t : Int32} : CT ad MX0_soundAt [.int 1, .int t] o (RT (some (.int (tc_s1 t))) o) := by
  refine CT.of (L := [some (.int 1), some (.int t), none, none, none, none, none]) rfl rfl (by decide) (Nat.le_of_ble_eq_true rfl) rfl ?_
  refine aw_iload_n (x := 1) rfl dX0_soundAt_0 ?_
  refine aw_rS (v := some (.int 1)) (o2 := o) ct_X0_ringCount_1 (mm_fit_of cbX0_ringCount (by decide) (by decide)) wq303 wq304 rfl rfl (Nat.le_of_ble_eq_true rfl) (by decide) (by decide) rfl dX0_soundAt_1 ?_
  refine aw_istore_n (L2 := [some (.int 1), some (.int t), some (.int 1), none, none, none, none]) (by decide) rfl rfl dX0_soundAt_4 ?_
  refine aw_iconst (v := 0) (by decide) dX0_soundAt_5 ?_
  refine aw_istore_n (L2 := [some (.int 1), some (.int t), some (.int 1), some (.int 0), none, none, none]) (by decide) rfl rfl dX0_soundAt_6 ?_
  refine aw_iconst (v := 0) (by decide) dX0_soundAt_7 ?_
  refine aw_istore (L2 := [some (.int 1), some (.int t), some (.int 1), some (.int 0), some (.int 0), none, none]) (by decide) rfl rfl dX0_soundAt_8 ?_
  refine aw_iload (x := 0) rfl dX0_soundAt_10 ?_
  refine aw_iload_n (x := 1) rfl dX0_soundAt_12 ?_
  refine aw_icmp_ge (tgt := 71) (by decide) dX0_soundAt_13 (fun z => absurd z (by decide)) (fun _ => ?_)
  refine aw_iload_n (x := 1) rfl dX0_soundAt_16 ?_
  refine aw_iload (x := 0) rfl dX0_soundAt_17 ?_
  refine aw_rS (v := some (.int 0)) (o2 := o) ct_X0_isLong_1_0 (mm_fit_of cbX0_isLong (by decide) (by decide)) wq309 wq310 rfl rfl (Nat.le_of_ble_eq_true rfl) (by decide) (by decide) rfl dX0_soundAt_19 ?_
  refine aw_istore (L2 := [some (.int 1), some (.int t), some (.int 1), some (.int 0), some (.int 0), some (.int 0), none]) (by decide) rfl rfl dX0_soundAt_22 ?_
  refine aw_iload_n (x := 0) rfl dX0_soundAt_24 ?_
  refine aw_iload (x := 0) rfl dX0_soundAt_25 ?_
  refine aw_if_eq (tgt := 34) (by decide) dX0_soundAt_27 (fun _ => ?_) (fun z => absurd z (by decide))
  refine aw_iconst (v := 1) (by decide) dX0_soundAt_34 ?_
  refine aw_iaddz (z := 1) (by decide) dX0_soundAt_35 ?_
  refine aw_istore (L2 := [some (.int 1), some (.int t), some (.int 1), some (.int 0), some (.int 0), some (.int 0), some (.int 1)]) (by decide) rfl rfl dX0_soundAt_36 ?_
  refine aw_iload_n (x := t) rfl dX0_soundAt_38 ?_
  refine aw_iload_n (x := 0) rfl dX0_soundAt_39 ?_
  refine aw_icmp_lt (tgt := 60) (by decide) dX0_soundAt_40 (fun b1 => ?_) (fun b1 => ?_)
  · skip
    refine aw_iload (x := 1) rfl dX0_soundAt_60 ?_
    refine aw_iconst (v := 1) (by decide) dX0_soundAt_62 ?_
    refine aw_iaddz (z := 2) (by decide) dX0_soundAt_63 ?_
    refine aw_istore_n (L2 := [some (.int 1), some (.int t), some (.int 1), some (.int 2), some (.int 0), some (.int 0), some (.int 1)]) (by decide) rfl rfl dX0_soundAt_64 ?_
    refine aw_iinc (x := 0) (v := 1) (L2 := [some (.int 1), some (.int t), some (.int 1), some (.int 2), some (.int 1), some (.int 0), some (.int 1)]) rfl (by decide) (by decide) rfl rfl dX0_soundAt_65 ?_
    refine aw_goto (tgt := 10) (by decide) dX0_soundAt_68 ?_
    refine aw_iload (x := 1) rfl dX0_soundAt_10 ?_
    refine aw_iload_n (x := 1) rfl dX0_soundAt_12 ?_
    refine aw_icmp_ge (tgt := 71) (by decide) dX0_soundAt_13 (fun _ => ?_) (fun z => absurd z (by decide))
    refine aw_iconst (v := 0) (by decide) dX0_soundAt_71 ?_
    exact aw_iret rfl (by decide) (by decide) dX0_soundAt_72 ⟨by first | rfl | (simp [tc_s1, wd_w_row, row_self, row_row, b1]; done) | (simp_all [tc_s1, wd_w_row, row_self, row_row, b1]; done), by first | rfl | (simp [tc_s1, wd_w_row, row_self, row_row, b1]; done) | (simp_all [tc_s1, wd_w_row, row_self, row_row, b1]; done)⟩
  · skip
    refine aw_iload_n (x := t) rfl dX0_soundAt_43 ?_
    refine aw_iload (x := 1) rfl dX0_soundAt_44 ?_
    refine aw_icmp_ge (tgt := 60) (by decide) dX0_soundAt_46 (fun b2 => ?_) (fun b2 => ?_)
    · skip
      refine aw_iload (x := 1) rfl dX0_soundAt_60 ?_
      refine aw_iconst (v := 1) (by decide) dX0_soundAt_62 ?_
      refine aw_iaddz (z := 2) (by decide) dX0_soundAt_63 ?_
      refine aw_istore_n (L2 := [some (.int 1), some (.int t), some (.int 1), some (.int 2), some (.int 0), some (.int 0), some (.int 1)]) (by decide) rfl rfl dX0_soundAt_64 ?_
      refine aw_iinc (x := 0) (v := 1) (L2 := [some (.int 1), some (.int t), some (.int 1), some (.int 2), some (.int 1), some (.int 0), some (.int 1)]) rfl (by decide) (by decide) rfl rfl dX0_soundAt_65 ?_
      refine aw_goto (tgt := 10) (by decide) dX0_soundAt_68 ?_
      refine aw_iload (x := 1) rfl dX0_soundAt_10 ?_
      refine aw_iload_n (x := 1) rfl dX0_soundAt_12 ?_
      refine aw_icmp_ge (tgt := 71) (by decide) dX0_soundAt_13 (fun _ => ?_) (fun z => absurd z (by decide))
      refine aw_iconst (v := 0) (by decide) dX0_soundAt_71 ?_
      exact aw_iret rfl (by decide) (by decide) dX0_soundAt_72 ⟨by first | rfl | (simp [tc_s1, wd_w_row, row_self, row_row, b1, b2]; done) | (simp_all [tc_s1, wd_w_row, row_self, row_row, b1, b2]; done), by first | rfl | (simp [tc_s1, wd_w_row, row_self, row_row, b1, b2]; done) | (simp_all [tc_s1, wd_w_row, row_self, row_row, b1, b2]; done)⟩
    · skip
      refine aw_iload (x := 0) rfl dX0_soundAt_49 ?_
      refine aw_if_eq (tgt := 58) (by decide) dX0_soundAt_51 (fun _ => ?_) (fun z => absurd z (by decide))
      refine aw_iconst (v := 1) (by decide) dX0_soundAt_58 ?_
      exact aw_iret rfl (by decide) (by decide) dX0_soundAt_59 ⟨by first | rfl | (simp [tc_s1, wd_w_row, row_self, row_row, b1, b2]; done) | (simp_all [tc_s1, wd_w_row, row_self, row_row, b1, b2]; done), by first | rfl | (simp [tc_s1, wd_w_row, row_self, row_row, b1, b2]; done) | (simp_all [tc_s1, wd_w_row, row_self, row_row, b1, b2]; done)⟩
theorem ct_X0_ringCount_2 {ad : Nat → Nat → Nat → Nat} {o : wd_S}  : CT ad MX0_ringCount [.int 2] o (RT (some (.int 1)) o) := by
  refine CT.of (L := [some (.int 2), none]) rfl rfl (by decide) (Nat.le_of_ble_eq_true rfl) rfl ?_
  refine aw_iconst (v := 0) (by decide) dX0_ringCount_0 ?_
  refine aw_istore_n (L2 := [some (.int 2), some (.int 0)]) (by decide) rfl rfl dX0_ringCount_1 ?_
  refine aw_iload_n (x := 0) rfl dX0_ringCount_2 ?_
  refine aw_iconst (v := 3) (by decide) dX0_ringCount_3 ?_
  refine aw_icmp_ge (tgt := 23) (by decide) dX0_ringCount_4 (fun z => absurd z (by decide)) (fun _ => ?_)
  refine aw_iload_n (x := 2) rfl dX0_ringCount_7 ?_
  refine aw_iconst (v := 1) (by decide) dX0_ringCount_8 ?_
  refine aw_iaddz (z := 3) (by decide) dX0_ringCount_9 ?_
  refine aw_iload_n (x := 0) rfl dX0_ringCount_10 ?_
  refine aw_iconst (v := 1) (by decide) dX0_ringCount_11 ?_
  refine aw_iaddz (z := 1) (by decide) dX0_ringCount_12 ?_
  refine aw_ishrz (z := 1) (by decide) dX0_ringCount_13 ?_
  refine aw_if_eq (tgt := 23) (by decide) dX0_ringCount_14 (fun z => absurd z (by decide)) (fun _ => ?_)
  refine aw_iinc (x := 0) (v := 1) (L2 := [some (.int 2), some (.int 1)]) rfl (by decide) (by decide) rfl rfl dX0_ringCount_17 ?_
  refine aw_goto (tgt := 2) (by decide) dX0_ringCount_20 ?_
  refine aw_iload_n (x := 1) rfl dX0_ringCount_2 ?_
  refine aw_iconst (v := 3) (by decide) dX0_ringCount_3 ?_
  refine aw_icmp_ge (tgt := 23) (by decide) dX0_ringCount_4 (fun z => absurd z (by decide)) (fun _ => ?_)
  refine aw_iload_n (x := 2) rfl dX0_ringCount_7 ?_
  refine aw_iconst (v := 1) (by decide) dX0_ringCount_8 ?_
  refine aw_iaddz (z := 3) (by decide) dX0_ringCount_9 ?_
  refine aw_iload_n (x := 1) rfl dX0_ringCount_10 ?_
  refine aw_iconst (v := 1) (by decide) dX0_ringCount_11 ?_
  refine aw_iaddz (z := 2) (by decide) dX0_ringCount_12 ?_
  refine aw_ishrz (z := 0) (by decide) dX0_ringCount_13 ?_
  refine aw_if_eq (tgt := 23) (by decide) dX0_ringCount_14 (fun _ => ?_) (fun z => absurd z (by decide))
  refine aw_iload_n (x := 1) rfl dX0_ringCount_23 ?_
  exact aw_iret rfl (by decide) (by decide) dX0_ringCount_24 ⟨by first | rfl | (simp [wd_w_row, row_self, row_row]; done) | (simp_all [wd_w_row, row_self, row_row]; done), by first | rfl | (simp [wd_w_row, row_self, row_row]; done) | (simp_all [wd_w_row, row_self, row_row]; done)⟩
theorem ct_X0_isLong_2_0 {ad : Nat → Nat → Nat → Nat} {o : wd_S}  : CT ad MX0_isLong [.int 2, .int 0] o (RT (some (.int 1)) o) := by
  refine CT.of (L := [some (.int 2), some (.int 0), none]) rfl rfl (by decide) (Nat.le_of_ble_eq_true rfl) rfl ?_
  refine aw_iload_n (x := 2) rfl dX0_isLong_0 ?_
  refine aw_rS (v := some (.int 1)) (o2 := o) ct_X0_ringCount_2 (mm_fit_of cbX0_ringCount (by decide) (by decide)) wq303 wq304 rfl rfl (Nat.le_of_ble_eq_true rfl) (by decide) (by decide) rfl dX0_isLong_1 ?_
  refine aw_iconst (v := 1) (by decide) dX0_isLong_4 ?_
  refine aw_isubz (z := 0) (by decide) dX0_isLong_5 ?_
  refine aw_iload_n (x := 0) rfl dX0_isLong_6 ?_
  refine aw_isubz (z := 0) (by decide) dX0_isLong_7 ?_
  refine aw_istore_n (L2 := [some (.int 2), some (.int 0), some (.int 0)]) (by decide) rfl rfl dX0_isLong_8 ?_
  refine aw_iload_n (x := 2) rfl dX0_isLong_9 ?_
  refine aw_iconst (v := 1) (by decide) dX0_isLong_10 ?_
  refine aw_iaddz (z := 3) (by decide) dX0_isLong_11 ?_
  refine aw_iload_n (x := 0) rfl dX0_isLong_12 ?_
  refine aw_ishrz (z := 3) (by decide) dX0_isLong_13 ?_
  refine aw_iconst (v := 1) (by decide) dX0_isLong_14 ?_
  refine aw_iandz (z := 1) (by decide) dX0_isLong_15 ?_
  refine aw_iconst (v := 1) (by decide) dX0_isLong_16 ?_
  refine aw_icmp_ne (tgt := 24) (by decide) dX0_isLong_17 (fun z => absurd z (by decide)) (fun _ => ?_)
  refine aw_iconst (v := 1) (by decide) dX0_isLong_20 ?_
  refine aw_goto (tgt := 25) (by decide) dX0_isLong_21 ?_
  exact aw_zret rfl (by decide) (by decide) (by decide) dX0_isLong_25 ⟨by first | rfl | (simp [wd_w_row, row_self, row_row]; done) | (simp_all [wd_w_row, row_self, row_row]; done), by first | rfl | (simp [wd_w_row, row_self, row_row]; done) | (simp_all [wd_w_row, row_self, row_row]; done)⟩
theorem ct_X0_lengthOf_2 {ad : Nat → Nat → Nat → Nat} {o : wd_S}  : CT ad MX0_lengthOf [.int 2] o (RT (some (.int 7)) o) := by
  refine CT.of (L := [some (.int 2), none, none, none]) rfl rfl (by decide) (Nat.le_of_ble_eq_true rfl) rfl ?_
  refine aw_iload_n (x := 2) rfl dX0_lengthOf_0 ?_
  refine aw_rS (v := some (.int 1)) (o2 := o) ct_X0_ringCount_2 (mm_fit_of cbX0_ringCount (by decide) (by decide)) wq303 wq304 rfl rfl (Nat.le_of_ble_eq_true rfl) (by decide) (by decide) rfl dX0_lengthOf_1 ?_
  refine aw_istore_n (L2 := [some (.int 2), some (.int 1), none, none]) (by decide) rfl rfl dX0_lengthOf_4 ?_
  refine aw_iload_n (x := 1) rfl dX0_lengthOf_5 ?_
  refine aw_iconst (v := 1) (by decide) dX0_lengthOf_6 ?_
  refine aw_isubz (z := 0) (by decide) dX0_lengthOf_7 ?_
  refine aw_iconst (v := 1) (by decide) dX0_lengthOf_8 ?_
  refine aw_imulz (z := 0) (by decide) dX0_lengthOf_9 ?_
  refine aw_iconst (v := 4) (by decide) dX0_lengthOf_10 ?_
  refine aw_iaddz (z := 4) (by decide) dX0_lengthOf_11 ?_
  refine aw_istore_n (L2 := [some (.int 2), some (.int 1), some (.int 4), none]) (by decide) rfl rfl dX0_lengthOf_12 ?_
  refine aw_iconst (v := 0) (by decide) dX0_lengthOf_13 ?_
  refine aw_istore_n (L2 := [some (.int 2), some (.int 1), some (.int 4), some (.int 0)]) (by decide) rfl rfl dX0_lengthOf_14 ?_
  refine aw_iload_n (x := 0) rfl dX0_lengthOf_15 ?_
  refine aw_iload_n (x := 1) rfl dX0_lengthOf_16 ?_
  refine aw_icmp_ge (tgt := 45) (by decide) dX0_lengthOf_17 (fun z => absurd z (by decide)) (fun _ => ?_)
  refine aw_iload_n (x := 4) rfl dX0_lengthOf_20 ?_
  refine aw_iload_n (x := 2) rfl dX0_lengthOf_21 ?_
  refine aw_iconst (v := 1) (by decide) dX0_lengthOf_22 ?_
  refine aw_iaddz (z := 3) (by decide) dX0_lengthOf_23 ?_
  refine aw_iload_n (x := 0) rfl dX0_lengthOf_24 ?_
  refine aw_ishrz (z := 3) (by decide) dX0_lengthOf_25 ?_
  refine aw_iconst (v := 1) (by decide) dX0_lengthOf_26 ?_
  refine aw_iandz (z := 1) (by decide) dX0_lengthOf_27 ?_
  refine aw_iconst (v := 1) (by decide) dX0_lengthOf_28 ?_
  refine aw_icmp_ne (tgt := 36) (by decide) dX0_lengthOf_29 (fun z => absurd z (by decide)) (fun _ => ?_)
  refine aw_iconst (v := 3) (by decide) dX0_lengthOf_32 ?_
  refine aw_goto (tgt := 37) (by decide) dX0_lengthOf_33 ?_
  refine aw_iaddz (z := 7) (by decide) dX0_lengthOf_37 ?_
  refine aw_istore_n (L2 := [some (.int 2), some (.int 1), some (.int 7), some (.int 0)]) (by decide) rfl rfl dX0_lengthOf_38 ?_
  refine aw_iinc (x := 0) (v := 1) (L2 := [some (.int 2), some (.int 1), some (.int 7), some (.int 1)]) rfl (by decide) (by decide) rfl rfl dX0_lengthOf_39 ?_
  refine aw_goto (tgt := 15) (by decide) dX0_lengthOf_42 ?_
  refine aw_iload_n (x := 1) rfl dX0_lengthOf_15 ?_
  refine aw_iload_n (x := 1) rfl dX0_lengthOf_16 ?_
  refine aw_icmp_ge (tgt := 45) (by decide) dX0_lengthOf_17 (fun _ => ?_) (fun z => absurd z (by decide))
  refine aw_iload_n (x := 7) rfl dX0_lengthOf_45 ?_
  exact aw_iret rfl (by decide) (by decide) dX0_lengthOf_46 ⟨by first | rfl | (simp [wd_w_row, row_self, row_row]; done) | (simp_all [wd_w_row, row_self, row_row]; done), by first | rfl | (simp [wd_w_row, row_self, row_row]; done) | (simp_all [wd_w_row, row_self, row_row]; done)⟩
theorem ct_X0_soundAt_2 {ad : Nat → Nat → Nat → Nat} {o : wd_S} {t : Int32} : CT ad MX0_soundAt [.int 2, .int t] o (RT (some (.int (tc_s2 t))) o) := by
  refine CT.of (L := [some (.int 2), some (.int t), none, none, none, none, none]) rfl rfl (by decide) (Nat.le_of_ble_eq_true rfl) rfl ?_
  refine aw_iload_n (x := 2) rfl dX0_soundAt_0 ?_
  refine aw_rS (v := some (.int 1)) (o2 := o) ct_X0_ringCount_2 (mm_fit_of cbX0_ringCount (by decide) (by decide)) wq303 wq304 rfl rfl (Nat.le_of_ble_eq_true rfl) (by decide) (by decide) rfl dX0_soundAt_1 ?_
  refine aw_istore_n (L2 := [some (.int 2), some (.int t), some (.int 1), none, none, none, none]) (by decide) rfl rfl dX0_soundAt_4 ?_
  refine aw_iconst (v := 0) (by decide) dX0_soundAt_5 ?_
  refine aw_istore_n (L2 := [some (.int 2), some (.int t), some (.int 1), some (.int 0), none, none, none]) (by decide) rfl rfl dX0_soundAt_6 ?_
  refine aw_iconst (v := 0) (by decide) dX0_soundAt_7 ?_
  refine aw_istore (L2 := [some (.int 2), some (.int t), some (.int 1), some (.int 0), some (.int 0), none, none]) (by decide) rfl rfl dX0_soundAt_8 ?_
  refine aw_iload (x := 0) rfl dX0_soundAt_10 ?_
  refine aw_iload_n (x := 1) rfl dX0_soundAt_12 ?_
  refine aw_icmp_ge (tgt := 71) (by decide) dX0_soundAt_13 (fun z => absurd z (by decide)) (fun _ => ?_)
  refine aw_iload_n (x := 2) rfl dX0_soundAt_16 ?_
  refine aw_iload (x := 0) rfl dX0_soundAt_17 ?_
  refine aw_rS (v := some (.int 1)) (o2 := o) ct_X0_isLong_2_0 (mm_fit_of cbX0_isLong (by decide) (by decide)) wq309 wq310 rfl rfl (Nat.le_of_ble_eq_true rfl) (by decide) (by decide) rfl dX0_soundAt_19 ?_
  refine aw_istore (L2 := [some (.int 2), some (.int t), some (.int 1), some (.int 0), some (.int 0), some (.int 1), none]) (by decide) rfl rfl dX0_soundAt_22 ?_
  refine aw_iload_n (x := 0) rfl dX0_soundAt_24 ?_
  refine aw_iload (x := 1) rfl dX0_soundAt_25 ?_
  refine aw_if_eq (tgt := 34) (by decide) dX0_soundAt_27 (fun z => absurd z (by decide)) (fun _ => ?_)
  refine aw_iconst (v := 3) (by decide) dX0_soundAt_30 ?_
  refine aw_goto (tgt := 35) (by decide) dX0_soundAt_31 ?_
  refine aw_iaddz (z := 3) (by decide) dX0_soundAt_35 ?_
  refine aw_istore (L2 := [some (.int 2), some (.int t), some (.int 1), some (.int 0), some (.int 0), some (.int 1), some (.int 3)]) (by decide) rfl rfl dX0_soundAt_36 ?_
  refine aw_iload_n (x := t) rfl dX0_soundAt_38 ?_
  refine aw_iload_n (x := 0) rfl dX0_soundAt_39 ?_
  refine aw_icmp_lt (tgt := 60) (by decide) dX0_soundAt_40 (fun b1 => ?_) (fun b1 => ?_)
  · skip
    refine aw_iload (x := 3) rfl dX0_soundAt_60 ?_
    refine aw_iconst (v := 1) (by decide) dX0_soundAt_62 ?_
    refine aw_iaddz (z := 4) (by decide) dX0_soundAt_63 ?_
    refine aw_istore_n (L2 := [some (.int 2), some (.int t), some (.int 1), some (.int 4), some (.int 0), some (.int 1), some (.int 3)]) (by decide) rfl rfl dX0_soundAt_64 ?_
    refine aw_iinc (x := 0) (v := 1) (L2 := [some (.int 2), some (.int t), some (.int 1), some (.int 4), some (.int 1), some (.int 1), some (.int 3)]) rfl (by decide) (by decide) rfl rfl dX0_soundAt_65 ?_
    refine aw_goto (tgt := 10) (by decide) dX0_soundAt_68 ?_
    refine aw_iload (x := 1) rfl dX0_soundAt_10 ?_
    refine aw_iload_n (x := 1) rfl dX0_soundAt_12 ?_
    refine aw_icmp_ge (tgt := 71) (by decide) dX0_soundAt_13 (fun _ => ?_) (fun z => absurd z (by decide))
    refine aw_iconst (v := 0) (by decide) dX0_soundAt_71 ?_
    exact aw_iret rfl (by decide) (by decide) dX0_soundAt_72 ⟨by first | rfl | (simp [tc_s2, wd_w_row, row_self, row_row, b1]; done) | (simp_all [tc_s2, wd_w_row, row_self, row_row, b1]; done), by first | rfl | (simp [tc_s2, wd_w_row, row_self, row_row, b1]; done) | (simp_all [tc_s2, wd_w_row, row_self, row_row, b1]; done)⟩
  · skip
    refine aw_iload_n (x := t) rfl dX0_soundAt_43 ?_
    refine aw_iload (x := 3) rfl dX0_soundAt_44 ?_
    refine aw_icmp_ge (tgt := 60) (by decide) dX0_soundAt_46 (fun b2 => ?_) (fun b2 => ?_)
    · skip
      refine aw_iload (x := 3) rfl dX0_soundAt_60 ?_
      refine aw_iconst (v := 1) (by decide) dX0_soundAt_62 ?_
      refine aw_iaddz (z := 4) (by decide) dX0_soundAt_63 ?_
      refine aw_istore_n (L2 := [some (.int 2), some (.int t), some (.int 1), some (.int 4), some (.int 0), some (.int 1), some (.int 3)]) (by decide) rfl rfl dX0_soundAt_64 ?_
      refine aw_iinc (x := 0) (v := 1) (L2 := [some (.int 2), some (.int t), some (.int 1), some (.int 4), some (.int 1), some (.int 1), some (.int 3)]) rfl (by decide) (by decide) rfl rfl dX0_soundAt_65 ?_
      refine aw_goto (tgt := 10) (by decide) dX0_soundAt_68 ?_
      refine aw_iload (x := 1) rfl dX0_soundAt_10 ?_
      refine aw_iload_n (x := 1) rfl dX0_soundAt_12 ?_
      refine aw_icmp_ge (tgt := 71) (by decide) dX0_soundAt_13 (fun _ => ?_) (fun z => absurd z (by decide))
      refine aw_iconst (v := 0) (by decide) dX0_soundAt_71 ?_
      exact aw_iret rfl (by decide) (by decide) dX0_soundAt_72 ⟨by first | rfl | (simp [tc_s2, wd_w_row, row_self, row_row, b1, b2]; done) | (simp_all [tc_s2, wd_w_row, row_self, row_row, b1, b2]; done), by first | rfl | (simp [tc_s2, wd_w_row, row_self, row_row, b1, b2]; done) | (simp_all [tc_s2, wd_w_row, row_self, row_row, b1, b2]; done)⟩
    · skip
      refine aw_iload (x := 1) rfl dX0_soundAt_49 ?_
      refine aw_if_eq (tgt := 58) (by decide) dX0_soundAt_51 (fun z => absurd z (by decide)) (fun _ => ?_)
      refine aw_iconst (v := 2) (by decide) dX0_soundAt_54 ?_
      refine aw_goto (tgt := 59) (by decide) dX0_soundAt_55 ?_
      exact aw_iret rfl (by decide) (by decide) dX0_soundAt_59 ⟨by first | rfl | (simp [tc_s2, wd_w_row, row_self, row_row, b1, b2]; done) | (simp_all [tc_s2, wd_w_row, row_self, row_row, b1, b2]; done), by first | rfl | (simp [tc_s2, wd_w_row, row_self, row_row, b1, b2]; done) | (simp_all [tc_s2, wd_w_row, row_self, row_row, b1, b2]; done)⟩
theorem ct_X0_ringCount_3 {ad : Nat → Nat → Nat → Nat} {o : wd_S}  : CT ad MX0_ringCount [.int 3] o (RT (some (.int 2)) o) := by
  refine CT.of (L := [some (.int 3), none]) rfl rfl (by decide) (Nat.le_of_ble_eq_true rfl) rfl ?_
  refine aw_iconst (v := 0) (by decide) dX0_ringCount_0 ?_
  refine aw_istore_n (L2 := [some (.int 3), some (.int 0)]) (by decide) rfl rfl dX0_ringCount_1 ?_
  refine aw_iload_n (x := 0) rfl dX0_ringCount_2 ?_
  refine aw_iconst (v := 3) (by decide) dX0_ringCount_3 ?_
  refine aw_icmp_ge (tgt := 23) (by decide) dX0_ringCount_4 (fun z => absurd z (by decide)) (fun _ => ?_)
  refine aw_iload_n (x := 3) rfl dX0_ringCount_7 ?_
  refine aw_iconst (v := 1) (by decide) dX0_ringCount_8 ?_
  refine aw_iaddz (z := 4) (by decide) dX0_ringCount_9 ?_
  refine aw_iload_n (x := 0) rfl dX0_ringCount_10 ?_
  refine aw_iconst (v := 1) (by decide) dX0_ringCount_11 ?_
  refine aw_iaddz (z := 1) (by decide) dX0_ringCount_12 ?_
  refine aw_ishrz (z := 2) (by decide) dX0_ringCount_13 ?_
  refine aw_if_eq (tgt := 23) (by decide) dX0_ringCount_14 (fun z => absurd z (by decide)) (fun _ => ?_)
  refine aw_iinc (x := 0) (v := 1) (L2 := [some (.int 3), some (.int 1)]) rfl (by decide) (by decide) rfl rfl dX0_ringCount_17 ?_
  refine aw_goto (tgt := 2) (by decide) dX0_ringCount_20 ?_
  refine aw_iload_n (x := 1) rfl dX0_ringCount_2 ?_
  refine aw_iconst (v := 3) (by decide) dX0_ringCount_3 ?_
  refine aw_icmp_ge (tgt := 23) (by decide) dX0_ringCount_4 (fun z => absurd z (by decide)) (fun _ => ?_)
  refine aw_iload_n (x := 3) rfl dX0_ringCount_7 ?_
  refine aw_iconst (v := 1) (by decide) dX0_ringCount_8 ?_
  refine aw_iaddz (z := 4) (by decide) dX0_ringCount_9 ?_
  refine aw_iload_n (x := 1) rfl dX0_ringCount_10 ?_
  refine aw_iconst (v := 1) (by decide) dX0_ringCount_11 ?_
  refine aw_iaddz (z := 2) (by decide) dX0_ringCount_12 ?_
  refine aw_ishrz (z := 1) (by decide) dX0_ringCount_13 ?_
  refine aw_if_eq (tgt := 23) (by decide) dX0_ringCount_14 (fun z => absurd z (by decide)) (fun _ => ?_)
  refine aw_iinc (x := 1) (v := 2) (L2 := [some (.int 3), some (.int 2)]) rfl (by decide) (by decide) rfl rfl dX0_ringCount_17 ?_
  refine aw_goto (tgt := 2) (by decide) dX0_ringCount_20 ?_
  refine aw_iload_n (x := 2) rfl dX0_ringCount_2 ?_
  refine aw_iconst (v := 3) (by decide) dX0_ringCount_3 ?_
  refine aw_icmp_ge (tgt := 23) (by decide) dX0_ringCount_4 (fun z => absurd z (by decide)) (fun _ => ?_)
  refine aw_iload_n (x := 3) rfl dX0_ringCount_7 ?_
  refine aw_iconst (v := 1) (by decide) dX0_ringCount_8 ?_
  refine aw_iaddz (z := 4) (by decide) dX0_ringCount_9 ?_
  refine aw_iload_n (x := 2) rfl dX0_ringCount_10 ?_
  refine aw_iconst (v := 1) (by decide) dX0_ringCount_11 ?_
  refine aw_iaddz (z := 3) (by decide) dX0_ringCount_12 ?_
  refine aw_ishrz (z := 0) (by decide) dX0_ringCount_13 ?_
  refine aw_if_eq (tgt := 23) (by decide) dX0_ringCount_14 (fun _ => ?_) (fun z => absurd z (by decide))
  refine aw_iload_n (x := 2) rfl dX0_ringCount_23 ?_
  exact aw_iret rfl (by decide) (by decide) dX0_ringCount_24 ⟨by first | rfl | (simp [wd_w_row, row_self, row_row]; done) | (simp_all [wd_w_row, row_self, row_row]; done), by first | rfl | (simp [wd_w_row, row_self, row_row]; done) | (simp_all [wd_w_row, row_self, row_row]; done)⟩
theorem ct_X0_isLong_3_0 {ad : Nat → Nat → Nat → Nat} {o : wd_S}  : CT ad MX0_isLong [.int 3, .int 0] o (RT (some (.int 0)) o) := by
  refine CT.of (L := [some (.int 3), some (.int 0), none]) rfl rfl (by decide) (Nat.le_of_ble_eq_true rfl) rfl ?_
  refine aw_iload_n (x := 3) rfl dX0_isLong_0 ?_
  refine aw_rS (v := some (.int 2)) (o2 := o) ct_X0_ringCount_3 (mm_fit_of cbX0_ringCount (by decide) (by decide)) wq303 wq304 rfl rfl (Nat.le_of_ble_eq_true rfl) (by decide) (by decide) rfl dX0_isLong_1 ?_
  refine aw_iconst (v := 1) (by decide) dX0_isLong_4 ?_
  refine aw_isubz (z := 1) (by decide) dX0_isLong_5 ?_
  refine aw_iload_n (x := 0) rfl dX0_isLong_6 ?_
  refine aw_isubz (z := 1) (by decide) dX0_isLong_7 ?_
  refine aw_istore_n (L2 := [some (.int 3), some (.int 0), some (.int 1)]) (by decide) rfl rfl dX0_isLong_8 ?_
  refine aw_iload_n (x := 3) rfl dX0_isLong_9 ?_
  refine aw_iconst (v := 1) (by decide) dX0_isLong_10 ?_
  refine aw_iaddz (z := 4) (by decide) dX0_isLong_11 ?_
  refine aw_iload_n (x := 1) rfl dX0_isLong_12 ?_
  refine aw_ishrz (z := 2) (by decide) dX0_isLong_13 ?_
  refine aw_iconst (v := 1) (by decide) dX0_isLong_14 ?_
  refine aw_iandz (z := 0) (by decide) dX0_isLong_15 ?_
  refine aw_iconst (v := 1) (by decide) dX0_isLong_16 ?_
  refine aw_icmp_ne (tgt := 24) (by decide) dX0_isLong_17 (fun _ => ?_) (fun z => absurd z (by decide))
  refine aw_iconst (v := 0) (by decide) dX0_isLong_24 ?_
  exact aw_zret rfl (by decide) (by decide) (by decide) dX0_isLong_25 ⟨by first | rfl | (simp [wd_w_row, row_self, row_row]; done) | (simp_all [wd_w_row, row_self, row_row]; done), by first | rfl | (simp [wd_w_row, row_self, row_row]; done) | (simp_all [wd_w_row, row_self, row_row]; done)⟩
theorem ct_X0_isLong_3_1 {ad : Nat → Nat → Nat → Nat} {o : wd_S}  : CT ad MX0_isLong [.int 3, .int 1] o (RT (some (.int 0)) o) := by
  refine CT.of (L := [some (.int 3), some (.int 1), none]) rfl rfl (by decide) (Nat.le_of_ble_eq_true rfl) rfl ?_
  refine aw_iload_n (x := 3) rfl dX0_isLong_0 ?_
  refine aw_rS (v := some (.int 2)) (o2 := o) ct_X0_ringCount_3 (mm_fit_of cbX0_ringCount (by decide) (by decide)) wq303 wq304 rfl rfl (Nat.le_of_ble_eq_true rfl) (by decide) (by decide) rfl dX0_isLong_1 ?_
  refine aw_iconst (v := 1) (by decide) dX0_isLong_4 ?_
  refine aw_isubz (z := 1) (by decide) dX0_isLong_5 ?_
  refine aw_iload_n (x := 1) rfl dX0_isLong_6 ?_
  refine aw_isubz (z := 0) (by decide) dX0_isLong_7 ?_
  refine aw_istore_n (L2 := [some (.int 3), some (.int 1), some (.int 0)]) (by decide) rfl rfl dX0_isLong_8 ?_
  refine aw_iload_n (x := 3) rfl dX0_isLong_9 ?_
  refine aw_iconst (v := 1) (by decide) dX0_isLong_10 ?_
  refine aw_iaddz (z := 4) (by decide) dX0_isLong_11 ?_
  refine aw_iload_n (x := 0) rfl dX0_isLong_12 ?_
  refine aw_ishrz (z := 4) (by decide) dX0_isLong_13 ?_
  refine aw_iconst (v := 1) (by decide) dX0_isLong_14 ?_
  refine aw_iandz (z := 0) (by decide) dX0_isLong_15 ?_
  refine aw_iconst (v := 1) (by decide) dX0_isLong_16 ?_
  refine aw_icmp_ne (tgt := 24) (by decide) dX0_isLong_17 (fun _ => ?_) (fun z => absurd z (by decide))
  refine aw_iconst (v := 0) (by decide) dX0_isLong_24 ?_
  exact aw_zret rfl (by decide) (by decide) (by decide) dX0_isLong_25 ⟨by first | rfl | (simp [wd_w_row, row_self, row_row]; done) | (simp_all [wd_w_row, row_self, row_row]; done), by first | rfl | (simp [wd_w_row, row_self, row_row]; done) | (simp_all [wd_w_row, row_self, row_row]; done)⟩
theorem ct_X0_lengthOf_3 {ad : Nat → Nat → Nat → Nat} {o : wd_S}  : CT ad MX0_lengthOf [.int 3] o (RT (some (.int 7)) o) := by
  refine CT.of (L := [some (.int 3), none, none, none]) rfl rfl (by decide) (Nat.le_of_ble_eq_true rfl) rfl ?_
  refine aw_iload_n (x := 3) rfl dX0_lengthOf_0 ?_
  refine aw_rS (v := some (.int 2)) (o2 := o) ct_X0_ringCount_3 (mm_fit_of cbX0_ringCount (by decide) (by decide)) wq303 wq304 rfl rfl (Nat.le_of_ble_eq_true rfl) (by decide) (by decide) rfl dX0_lengthOf_1 ?_
  refine aw_istore_n (L2 := [some (.int 3), some (.int 2), none, none]) (by decide) rfl rfl dX0_lengthOf_4 ?_
  refine aw_iload_n (x := 2) rfl dX0_lengthOf_5 ?_
  refine aw_iconst (v := 1) (by decide) dX0_lengthOf_6 ?_
  refine aw_isubz (z := 1) (by decide) dX0_lengthOf_7 ?_
  refine aw_iconst (v := 1) (by decide) dX0_lengthOf_8 ?_
  refine aw_imulz (z := 1) (by decide) dX0_lengthOf_9 ?_
  refine aw_iconst (v := 4) (by decide) dX0_lengthOf_10 ?_
  refine aw_iaddz (z := 5) (by decide) dX0_lengthOf_11 ?_
  refine aw_istore_n (L2 := [some (.int 3), some (.int 2), some (.int 5), none]) (by decide) rfl rfl dX0_lengthOf_12 ?_
  refine aw_iconst (v := 0) (by decide) dX0_lengthOf_13 ?_
  refine aw_istore_n (L2 := [some (.int 3), some (.int 2), some (.int 5), some (.int 0)]) (by decide) rfl rfl dX0_lengthOf_14 ?_
  refine aw_iload_n (x := 0) rfl dX0_lengthOf_15 ?_
  refine aw_iload_n (x := 2) rfl dX0_lengthOf_16 ?_
  refine aw_icmp_ge (tgt := 45) (by decide) dX0_lengthOf_17 (fun z => absurd z (by decide)) (fun _ => ?_)
  refine aw_iload_n (x := 5) rfl dX0_lengthOf_20 ?_
  refine aw_iload_n (x := 3) rfl dX0_lengthOf_21 ?_
  refine aw_iconst (v := 1) (by decide) dX0_lengthOf_22 ?_
  refine aw_iaddz (z := 4) (by decide) dX0_lengthOf_23 ?_
  refine aw_iload_n (x := 0) rfl dX0_lengthOf_24 ?_
  refine aw_ishrz (z := 4) (by decide) dX0_lengthOf_25 ?_
  refine aw_iconst (v := 1) (by decide) dX0_lengthOf_26 ?_
  refine aw_iandz (z := 0) (by decide) dX0_lengthOf_27 ?_
  refine aw_iconst (v := 1) (by decide) dX0_lengthOf_28 ?_
  refine aw_icmp_ne (tgt := 36) (by decide) dX0_lengthOf_29 (fun _ => ?_) (fun z => absurd z (by decide))
  refine aw_iconst (v := 1) (by decide) dX0_lengthOf_36 ?_
  refine aw_iaddz (z := 6) (by decide) dX0_lengthOf_37 ?_
  refine aw_istore_n (L2 := [some (.int 3), some (.int 2), some (.int 6), some (.int 0)]) (by decide) rfl rfl dX0_lengthOf_38 ?_
  refine aw_iinc (x := 0) (v := 1) (L2 := [some (.int 3), some (.int 2), some (.int 6), some (.int 1)]) rfl (by decide) (by decide) rfl rfl dX0_lengthOf_39 ?_
  refine aw_goto (tgt := 15) (by decide) dX0_lengthOf_42 ?_
  refine aw_iload_n (x := 1) rfl dX0_lengthOf_15 ?_
  refine aw_iload_n (x := 2) rfl dX0_lengthOf_16 ?_
  refine aw_icmp_ge (tgt := 45) (by decide) dX0_lengthOf_17 (fun z => absurd z (by decide)) (fun _ => ?_)
  refine aw_iload_n (x := 6) rfl dX0_lengthOf_20 ?_
  refine aw_iload_n (x := 3) rfl dX0_lengthOf_21 ?_
  refine aw_iconst (v := 1) (by decide) dX0_lengthOf_22 ?_
  refine aw_iaddz (z := 4) (by decide) dX0_lengthOf_23 ?_
  refine aw_iload_n (x := 1) rfl dX0_lengthOf_24 ?_
  refine aw_ishrz (z := 2) (by decide) dX0_lengthOf_25 ?_
  refine aw_iconst (v := 1) (by decide) dX0_lengthOf_26 ?_
  refine aw_iandz (z := 0) (by decide) dX0_lengthOf_27 ?_
  refine aw_iconst (v := 1) (by decide) dX0_lengthOf_28 ?_
  refine aw_icmp_ne (tgt := 36) (by decide) dX0_lengthOf_29 (fun _ => ?_) (fun z => absurd z (by decide))
  refine aw_iconst (v := 1) (by decide) dX0_lengthOf_36 ?_
  refine aw_iaddz (z := 7) (by decide) dX0_lengthOf_37 ?_
  refine aw_istore_n (L2 := [some (.int 3), some (.int 2), some (.int 7), some (.int 1)]) (by decide) rfl rfl dX0_lengthOf_38 ?_
  refine aw_iinc (x := 1) (v := 2) (L2 := [some (.int 3), some (.int 2), some (.int 7), some (.int 2)]) rfl (by decide) (by decide) rfl rfl dX0_lengthOf_39 ?_
  refine aw_goto (tgt := 15) (by decide) dX0_lengthOf_42 ?_
  refine aw_iload_n (x := 2) rfl dX0_lengthOf_15 ?_
  refine aw_iload_n (x := 2) rfl dX0_lengthOf_16 ?_
  refine aw_icmp_ge (tgt := 45) (by decide) dX0_lengthOf_17 (fun _ => ?_) (fun z => absurd z (by decide))
  refine aw_iload_n (x := 7) rfl dX0_lengthOf_45 ?_
  exact aw_iret rfl (by decide) (by decide) dX0_lengthOf_46 ⟨by first | rfl | (simp [wd_w_row, row_self, row_row]; done) | (simp_all [wd_w_row, row_self, row_row]; done), by first | rfl | (simp [wd_w_row, row_self, row_row]; done) | (simp_all [wd_w_row, row_self, row_row]; done)⟩
theorem ct_X0_soundAt_3 {ad : Nat → Nat → Nat → Nat} {o : wd_S} {t : Int32} : CT ad MX0_soundAt [.int 3, .int t] o (RT (some (.int (tc_s3 t))) o) := by
  refine CT.of (L := [some (.int 3), some (.int t), none, none, none, none, none]) rfl rfl (by decide) (Nat.le_of_ble_eq_true rfl) rfl ?_
  refine aw_iload_n (x := 3) rfl dX0_soundAt_0 ?_
  refine aw_rS (v := some (.int 2)) (o2 := o) ct_X0_ringCount_3 (mm_fit_of cbX0_ringCount (by decide) (by decide)) wq303 wq304 rfl rfl (Nat.le_of_ble_eq_true rfl) (by decide) (by decide) rfl dX0_soundAt_1 ?_
  refine aw_istore_n (L2 := [some (.int 3), some (.int t), some (.int 2), none, none, none, none]) (by decide) rfl rfl dX0_soundAt_4 ?_
  refine aw_iconst (v := 0) (by decide) dX0_soundAt_5 ?_
  refine aw_istore_n (L2 := [some (.int 3), some (.int t), some (.int 2), some (.int 0), none, none, none]) (by decide) rfl rfl dX0_soundAt_6 ?_
  refine aw_iconst (v := 0) (by decide) dX0_soundAt_7 ?_
  refine aw_istore (L2 := [some (.int 3), some (.int t), some (.int 2), some (.int 0), some (.int 0), none, none]) (by decide) rfl rfl dX0_soundAt_8 ?_
  refine aw_iload (x := 0) rfl dX0_soundAt_10 ?_
  refine aw_iload_n (x := 2) rfl dX0_soundAt_12 ?_
  refine aw_icmp_ge (tgt := 71) (by decide) dX0_soundAt_13 (fun z => absurd z (by decide)) (fun _ => ?_)
  refine aw_iload_n (x := 3) rfl dX0_soundAt_16 ?_
  refine aw_iload (x := 0) rfl dX0_soundAt_17 ?_
  refine aw_rS (v := some (.int 0)) (o2 := o) ct_X0_isLong_3_0 (mm_fit_of cbX0_isLong (by decide) (by decide)) wq309 wq310 rfl rfl (Nat.le_of_ble_eq_true rfl) (by decide) (by decide) rfl dX0_soundAt_19 ?_
  refine aw_istore (L2 := [some (.int 3), some (.int t), some (.int 2), some (.int 0), some (.int 0), some (.int 0), none]) (by decide) rfl rfl dX0_soundAt_22 ?_
  refine aw_iload_n (x := 0) rfl dX0_soundAt_24 ?_
  refine aw_iload (x := 0) rfl dX0_soundAt_25 ?_
  refine aw_if_eq (tgt := 34) (by decide) dX0_soundAt_27 (fun _ => ?_) (fun z => absurd z (by decide))
  refine aw_iconst (v := 1) (by decide) dX0_soundAt_34 ?_
  refine aw_iaddz (z := 1) (by decide) dX0_soundAt_35 ?_
  refine aw_istore (L2 := [some (.int 3), some (.int t), some (.int 2), some (.int 0), some (.int 0), some (.int 0), some (.int 1)]) (by decide) rfl rfl dX0_soundAt_36 ?_
  refine aw_iload_n (x := t) rfl dX0_soundAt_38 ?_
  refine aw_iload_n (x := 0) rfl dX0_soundAt_39 ?_
  refine aw_icmp_lt (tgt := 60) (by decide) dX0_soundAt_40 (fun b1 => ?_) (fun b1 => ?_)
  · skip
    refine aw_iload (x := 1) rfl dX0_soundAt_60 ?_
    refine aw_iconst (v := 1) (by decide) dX0_soundAt_62 ?_
    refine aw_iaddz (z := 2) (by decide) dX0_soundAt_63 ?_
    refine aw_istore_n (L2 := [some (.int 3), some (.int t), some (.int 2), some (.int 2), some (.int 0), some (.int 0), some (.int 1)]) (by decide) rfl rfl dX0_soundAt_64 ?_
    refine aw_iinc (x := 0) (v := 1) (L2 := [some (.int 3), some (.int t), some (.int 2), some (.int 2), some (.int 1), some (.int 0), some (.int 1)]) rfl (by decide) (by decide) rfl rfl dX0_soundAt_65 ?_
    refine aw_goto (tgt := 10) (by decide) dX0_soundAt_68 ?_
    refine aw_iload (x := 1) rfl dX0_soundAt_10 ?_
    refine aw_iload_n (x := 2) rfl dX0_soundAt_12 ?_
    refine aw_icmp_ge (tgt := 71) (by decide) dX0_soundAt_13 (fun z => absurd z (by decide)) (fun _ => ?_)
    refine aw_iload_n (x := 3) rfl dX0_soundAt_16 ?_
    refine aw_iload (x := 1) rfl dX0_soundAt_17 ?_
    refine aw_rS (v := some (.int 0)) (o2 := o) ct_X0_isLong_3_1 (mm_fit_of cbX0_isLong (by decide) (by decide)) wq309 wq310 rfl rfl (Nat.le_of_ble_eq_true rfl) (by decide) (by decide) rfl dX0_soundAt_19 ?_
    refine aw_istore (L2 := [some (.int 3), some (.int t), some (.int 2), some (.int 2), some (.int 1), some (.int 0), some (.int 1)]) (by decide) rfl rfl dX0_soundAt_22 ?_
    refine aw_iload_n (x := 2) rfl dX0_soundAt_24 ?_
    refine aw_iload (x := 0) rfl dX0_soundAt_25 ?_
    refine aw_if_eq (tgt := 34) (by decide) dX0_soundAt_27 (fun _ => ?_) (fun z => absurd z (by decide))
    refine aw_iconst (v := 1) (by decide) dX0_soundAt_34 ?_
    refine aw_iaddz (z := 3) (by decide) dX0_soundAt_35 ?_
    refine aw_istore (L2 := [some (.int 3), some (.int t), some (.int 2), some (.int 2), some (.int 1), some (.int 0), some (.int 3)]) (by decide) rfl rfl dX0_soundAt_36 ?_
    refine aw_iload_n (x := t) rfl dX0_soundAt_38 ?_
    refine aw_iload_n (x := 2) rfl dX0_soundAt_39 ?_
    refine aw_icmp_lt (tgt := 60) (by decide) dX0_soundAt_40 (fun b2 => ?_) (fun b2 => ?_)
    · skip
      refine aw_iload (x := 3) rfl dX0_soundAt_60 ?_
      refine aw_iconst (v := 1) (by decide) dX0_soundAt_62 ?_
      refine aw_iaddz (z := 4) (by decide) dX0_soundAt_63 ?_
      refine aw_istore_n (L2 := [some (.int 3), some (.int t), some (.int 2), some (.int 4), some (.int 1), some (.int 0), some (.int 3)]) (by decide) rfl rfl dX0_soundAt_64 ?_
      refine aw_iinc (x := 1) (v := 2) (L2 := [some (.int 3), some (.int t), some (.int 2), some (.int 4), some (.int 2), some (.int 0), some (.int 3)]) rfl (by decide) (by decide) rfl rfl dX0_soundAt_65 ?_
      refine aw_goto (tgt := 10) (by decide) dX0_soundAt_68 ?_
      refine aw_iload (x := 2) rfl dX0_soundAt_10 ?_
      refine aw_iload_n (x := 2) rfl dX0_soundAt_12 ?_
      refine aw_icmp_ge (tgt := 71) (by decide) dX0_soundAt_13 (fun _ => ?_) (fun z => absurd z (by decide))
      refine aw_iconst (v := 0) (by decide) dX0_soundAt_71 ?_
      exact aw_iret rfl (by decide) (by decide) dX0_soundAt_72 ⟨by first | rfl | (simp [tc_s3, wd_w_row, row_self, row_row, b1, b2]; done) | (simp_all [tc_s3, wd_w_row, row_self, row_row, b1, b2]; done), by first | rfl | (simp [tc_s3, wd_w_row, row_self, row_row, b1, b2]; done) | (simp_all [tc_s3, wd_w_row, row_self, row_row, b1, b2]; done)⟩
    · skip
      refine aw_iload_n (x := t) rfl dX0_soundAt_43 ?_
      refine aw_iload (x := 3) rfl dX0_soundAt_44 ?_
      refine aw_icmp_ge (tgt := 60) (by decide) dX0_soundAt_46 (fun b3 => ?_) (fun b3 => ?_)
      · skip
        refine aw_iload (x := 3) rfl dX0_soundAt_60 ?_
        refine aw_iconst (v := 1) (by decide) dX0_soundAt_62 ?_
        refine aw_iaddz (z := 4) (by decide) dX0_soundAt_63 ?_
        refine aw_istore_n (L2 := [some (.int 3), some (.int t), some (.int 2), some (.int 4), some (.int 1), some (.int 0), some (.int 3)]) (by decide) rfl rfl dX0_soundAt_64 ?_
        refine aw_iinc (x := 1) (v := 2) (L2 := [some (.int 3), some (.int t), some (.int 2), some (.int 4), some (.int 2), some (.int 0), some (.int 3)]) rfl (by decide) (by decide) rfl rfl dX0_soundAt_65 ?_
        refine aw_goto (tgt := 10) (by decide) dX0_soundAt_68 ?_
        refine aw_iload (x := 2) rfl dX0_soundAt_10 ?_
        refine aw_iload_n (x := 2) rfl dX0_soundAt_12 ?_
        refine aw_icmp_ge (tgt := 71) (by decide) dX0_soundAt_13 (fun _ => ?_) (fun z => absurd z (by decide))
        refine aw_iconst (v := 0) (by decide) dX0_soundAt_71 ?_
        exact aw_iret rfl (by decide) (by decide) dX0_soundAt_72 ⟨by first | rfl | (simp [tc_s3, wd_w_row, row_self, row_row, b1, b2, b3]; done) | (simp_all [tc_s3, wd_w_row, row_self, row_row, b1, b2, b3]; done), by first | rfl | (simp [tc_s3, wd_w_row, row_self, row_row, b1, b2, b3]; done) | (simp_all [tc_s3, wd_w_row, row_self, row_row, b1, b2, b3]; done)⟩
      · skip
        refine aw_iload (x := 0) rfl dX0_soundAt_49 ?_
        refine aw_if_eq (tgt := 58) (by decide) dX0_soundAt_51 (fun _ => ?_) (fun z => absurd z (by decide))
        refine aw_iconst (v := 1) (by decide) dX0_soundAt_58 ?_
        exact aw_iret rfl (by decide) (by decide) dX0_soundAt_59 ⟨by first | rfl | (simp [tc_s3, wd_w_row, row_self, row_row, b1, b2, b3]; done) | (simp_all [tc_s3, wd_w_row, row_self, row_row, b1, b2, b3]; done), by first | rfl | (simp [tc_s3, wd_w_row, row_self, row_row, b1, b2, b3]; done) | (simp_all [tc_s3, wd_w_row, row_self, row_row, b1, b2, b3]; done)⟩
  · skip
    refine aw_iload_n (x := t) rfl dX0_soundAt_43 ?_
    refine aw_iload (x := 1) rfl dX0_soundAt_44 ?_
    refine aw_icmp_ge (tgt := 60) (by decide) dX0_soundAt_46 (fun b4 => ?_) (fun b4 => ?_)
    · skip
      refine aw_iload (x := 1) rfl dX0_soundAt_60 ?_
      refine aw_iconst (v := 1) (by decide) dX0_soundAt_62 ?_
      refine aw_iaddz (z := 2) (by decide) dX0_soundAt_63 ?_
      refine aw_istore_n (L2 := [some (.int 3), some (.int t), some (.int 2), some (.int 2), some (.int 0), some (.int 0), some (.int 1)]) (by decide) rfl rfl dX0_soundAt_64 ?_
      refine aw_iinc (x := 0) (v := 1) (L2 := [some (.int 3), some (.int t), some (.int 2), some (.int 2), some (.int 1), some (.int 0), some (.int 1)]) rfl (by decide) (by decide) rfl rfl dX0_soundAt_65 ?_
      refine aw_goto (tgt := 10) (by decide) dX0_soundAt_68 ?_
      refine aw_iload (x := 1) rfl dX0_soundAt_10 ?_
      refine aw_iload_n (x := 2) rfl dX0_soundAt_12 ?_
      refine aw_icmp_ge (tgt := 71) (by decide) dX0_soundAt_13 (fun z => absurd z (by decide)) (fun _ => ?_)
      refine aw_iload_n (x := 3) rfl dX0_soundAt_16 ?_
      refine aw_iload (x := 1) rfl dX0_soundAt_17 ?_
      refine aw_rS (v := some (.int 0)) (o2 := o) ct_X0_isLong_3_1 (mm_fit_of cbX0_isLong (by decide) (by decide)) wq309 wq310 rfl rfl (Nat.le_of_ble_eq_true rfl) (by decide) (by decide) rfl dX0_soundAt_19 ?_
      refine aw_istore (L2 := [some (.int 3), some (.int t), some (.int 2), some (.int 2), some (.int 1), some (.int 0), some (.int 1)]) (by decide) rfl rfl dX0_soundAt_22 ?_
      refine aw_iload_n (x := 2) rfl dX0_soundAt_24 ?_
      refine aw_iload (x := 0) rfl dX0_soundAt_25 ?_
      refine aw_if_eq (tgt := 34) (by decide) dX0_soundAt_27 (fun _ => ?_) (fun z => absurd z (by decide))
      refine aw_iconst (v := 1) (by decide) dX0_soundAt_34 ?_
      refine aw_iaddz (z := 3) (by decide) dX0_soundAt_35 ?_
      refine aw_istore (L2 := [some (.int 3), some (.int t), some (.int 2), some (.int 2), some (.int 1), some (.int 0), some (.int 3)]) (by decide) rfl rfl dX0_soundAt_36 ?_
      refine aw_iload_n (x := t) rfl dX0_soundAt_38 ?_
      refine aw_iload_n (x := 2) rfl dX0_soundAt_39 ?_
      refine aw_icmp_lt (tgt := 60) (by decide) dX0_soundAt_40 (fun b5 => ?_) (fun b5 => ?_)
      · skip
        refine aw_iload (x := 3) rfl dX0_soundAt_60 ?_
        refine aw_iconst (v := 1) (by decide) dX0_soundAt_62 ?_
        refine aw_iaddz (z := 4) (by decide) dX0_soundAt_63 ?_
        refine aw_istore_n (L2 := [some (.int 3), some (.int t), some (.int 2), some (.int 4), some (.int 1), some (.int 0), some (.int 3)]) (by decide) rfl rfl dX0_soundAt_64 ?_
        refine aw_iinc (x := 1) (v := 2) (L2 := [some (.int 3), some (.int t), some (.int 2), some (.int 4), some (.int 2), some (.int 0), some (.int 3)]) rfl (by decide) (by decide) rfl rfl dX0_soundAt_65 ?_
        refine aw_goto (tgt := 10) (by decide) dX0_soundAt_68 ?_
        refine aw_iload (x := 2) rfl dX0_soundAt_10 ?_
        refine aw_iload_n (x := 2) rfl dX0_soundAt_12 ?_
        refine aw_icmp_ge (tgt := 71) (by decide) dX0_soundAt_13 (fun _ => ?_) (fun z => absurd z (by decide))
        refine aw_iconst (v := 0) (by decide) dX0_soundAt_71 ?_
        exact aw_iret rfl (by decide) (by decide) dX0_soundAt_72 ⟨by first | rfl | (simp [tc_s3, wd_w_row, row_self, row_row, b1, b4, b5]; done) | (simp_all [tc_s3, wd_w_row, row_self, row_row, b1, b4, b5]; done), by first | rfl | (simp [tc_s3, wd_w_row, row_self, row_row, b1, b4, b5]; done) | (simp_all [tc_s3, wd_w_row, row_self, row_row, b1, b4, b5]; done)⟩
      · skip
        refine aw_iload_n (x := t) rfl dX0_soundAt_43 ?_
        refine aw_iload (x := 3) rfl dX0_soundAt_44 ?_
        refine aw_icmp_ge (tgt := 60) (by decide) dX0_soundAt_46 (fun b6 => ?_) (fun b6 => ?_)
        · skip
          refine aw_iload (x := 3) rfl dX0_soundAt_60 ?_
          refine aw_iconst (v := 1) (by decide) dX0_soundAt_62 ?_
          refine aw_iaddz (z := 4) (by decide) dX0_soundAt_63 ?_
          refine aw_istore_n (L2 := [some (.int 3), some (.int t), some (.int 2), some (.int 4), some (.int 1), some (.int 0), some (.int 3)]) (by decide) rfl rfl dX0_soundAt_64 ?_
          refine aw_iinc (x := 1) (v := 2) (L2 := [some (.int 3), some (.int t), some (.int 2), some (.int 4), some (.int 2), some (.int 0), some (.int 3)]) rfl (by decide) (by decide) rfl rfl dX0_soundAt_65 ?_
          refine aw_goto (tgt := 10) (by decide) dX0_soundAt_68 ?_
          refine aw_iload (x := 2) rfl dX0_soundAt_10 ?_
          refine aw_iload_n (x := 2) rfl dX0_soundAt_12 ?_
          refine aw_icmp_ge (tgt := 71) (by decide) dX0_soundAt_13 (fun _ => ?_) (fun z => absurd z (by decide))
          refine aw_iconst (v := 0) (by decide) dX0_soundAt_71 ?_
          exact aw_iret rfl (by decide) (by decide) dX0_soundAt_72 ⟨by first | rfl | (simp [tc_s3, wd_w_row, row_self, row_row, b1, b4, b5, b6]; done) | (simp_all [tc_s3, wd_w_row, row_self, row_row, b1, b4, b5, b6]; done), by first | rfl | (simp [tc_s3, wd_w_row, row_self, row_row, b1, b4, b5, b6]; done) | (simp_all [tc_s3, wd_w_row, row_self, row_row, b1, b4, b5, b6]; done)⟩
        · skip
          refine aw_iload (x := 0) rfl dX0_soundAt_49 ?_
          refine aw_if_eq (tgt := 58) (by decide) dX0_soundAt_51 (fun _ => ?_) (fun z => absurd z (by decide))
          refine aw_iconst (v := 1) (by decide) dX0_soundAt_58 ?_
          exact aw_iret rfl (by decide) (by decide) dX0_soundAt_59 ⟨by first | rfl | (simp [tc_s3, wd_w_row, row_self, row_row, b1, b4, b5, b6]; done) | (simp_all [tc_s3, wd_w_row, row_self, row_row, b1, b4, b5, b6]; done), by first | rfl | (simp [tc_s3, wd_w_row, row_self, row_row, b1, b4, b5, b6]; done) | (simp_all [tc_s3, wd_w_row, row_self, row_row, b1, b4, b5, b6]; done)⟩
    · skip
      refine aw_iload (x := 0) rfl dX0_soundAt_49 ?_
      refine aw_if_eq (tgt := 58) (by decide) dX0_soundAt_51 (fun _ => ?_) (fun z => absurd z (by decide))
      refine aw_iconst (v := 1) (by decide) dX0_soundAt_58 ?_
      exact aw_iret rfl (by decide) (by decide) dX0_soundAt_59 ⟨by first | rfl | (simp [tc_s3, wd_w_row, row_self, row_row, b1, b4]; done) | (simp_all [tc_s3, wd_w_row, row_self, row_row, b1, b4]; done), by first | rfl | (simp [tc_s3, wd_w_row, row_self, row_row, b1, b4]; done) | (simp_all [tc_s3, wd_w_row, row_self, row_row, b1, b4]; done)⟩
theorem ct_X0_ringCount_4 {ad : Nat → Nat → Nat → Nat} {o : wd_S}  : CT ad MX0_ringCount [.int 4] o (RT (some (.int 2)) o) := by
  refine CT.of (L := [some (.int 4), none]) rfl rfl (by decide) (Nat.le_of_ble_eq_true rfl) rfl ?_
  refine aw_iconst (v := 0) (by decide) dX0_ringCount_0 ?_
  refine aw_istore_n (L2 := [some (.int 4), some (.int 0)]) (by decide) rfl rfl dX0_ringCount_1 ?_
  refine aw_iload_n (x := 0) rfl dX0_ringCount_2 ?_
  refine aw_iconst (v := 3) (by decide) dX0_ringCount_3 ?_
  refine aw_icmp_ge (tgt := 23) (by decide) dX0_ringCount_4 (fun z => absurd z (by decide)) (fun _ => ?_)
  refine aw_iload_n (x := 4) rfl dX0_ringCount_7 ?_
  refine aw_iconst (v := 1) (by decide) dX0_ringCount_8 ?_
  refine aw_iaddz (z := 5) (by decide) dX0_ringCount_9 ?_
  refine aw_iload_n (x := 0) rfl dX0_ringCount_10 ?_
  refine aw_iconst (v := 1) (by decide) dX0_ringCount_11 ?_
  refine aw_iaddz (z := 1) (by decide) dX0_ringCount_12 ?_
  refine aw_ishrz (z := 2) (by decide) dX0_ringCount_13 ?_
  refine aw_if_eq (tgt := 23) (by decide) dX0_ringCount_14 (fun z => absurd z (by decide)) (fun _ => ?_)
  refine aw_iinc (x := 0) (v := 1) (L2 := [some (.int 4), some (.int 1)]) rfl (by decide) (by decide) rfl rfl dX0_ringCount_17 ?_
  refine aw_goto (tgt := 2) (by decide) dX0_ringCount_20 ?_
  refine aw_iload_n (x := 1) rfl dX0_ringCount_2 ?_
  refine aw_iconst (v := 3) (by decide) dX0_ringCount_3 ?_
  refine aw_icmp_ge (tgt := 23) (by decide) dX0_ringCount_4 (fun z => absurd z (by decide)) (fun _ => ?_)
  refine aw_iload_n (x := 4) rfl dX0_ringCount_7 ?_
  refine aw_iconst (v := 1) (by decide) dX0_ringCount_8 ?_
  refine aw_iaddz (z := 5) (by decide) dX0_ringCount_9 ?_
  refine aw_iload_n (x := 1) rfl dX0_ringCount_10 ?_
  refine aw_iconst (v := 1) (by decide) dX0_ringCount_11 ?_
  refine aw_iaddz (z := 2) (by decide) dX0_ringCount_12 ?_
  refine aw_ishrz (z := 1) (by decide) dX0_ringCount_13 ?_
  refine aw_if_eq (tgt := 23) (by decide) dX0_ringCount_14 (fun z => absurd z (by decide)) (fun _ => ?_)
  refine aw_iinc (x := 1) (v := 2) (L2 := [some (.int 4), some (.int 2)]) rfl (by decide) (by decide) rfl rfl dX0_ringCount_17 ?_
  refine aw_goto (tgt := 2) (by decide) dX0_ringCount_20 ?_
  refine aw_iload_n (x := 2) rfl dX0_ringCount_2 ?_
  refine aw_iconst (v := 3) (by decide) dX0_ringCount_3 ?_
  refine aw_icmp_ge (tgt := 23) (by decide) dX0_ringCount_4 (fun z => absurd z (by decide)) (fun _ => ?_)
  refine aw_iload_n (x := 4) rfl dX0_ringCount_7 ?_
  refine aw_iconst (v := 1) (by decide) dX0_ringCount_8 ?_
  refine aw_iaddz (z := 5) (by decide) dX0_ringCount_9 ?_
  refine aw_iload_n (x := 2) rfl dX0_ringCount_10 ?_
  refine aw_iconst (v := 1) (by decide) dX0_ringCount_11 ?_
  refine aw_iaddz (z := 3) (by decide) dX0_ringCount_12 ?_
  refine aw_ishrz (z := 0) (by decide) dX0_ringCount_13 ?_
  refine aw_if_eq (tgt := 23) (by decide) dX0_ringCount_14 (fun _ => ?_) (fun z => absurd z (by decide))
  refine aw_iload_n (x := 2) rfl dX0_ringCount_23 ?_
  exact aw_iret rfl (by decide) (by decide) dX0_ringCount_24 ⟨by first | rfl | (simp [wd_w_row, row_self, row_row]; done) | (simp_all [wd_w_row, row_self, row_row]; done), by first | rfl | (simp [wd_w_row, row_self, row_row]; done) | (simp_all [wd_w_row, row_self, row_row]; done)⟩
theorem ct_X0_isLong_4_0 {ad : Nat → Nat → Nat → Nat} {o : wd_S}  : CT ad MX0_isLong [.int 4, .int 0] o (RT (some (.int 0)) o) := by
  refine CT.of (L := [some (.int 4), some (.int 0), none]) rfl rfl (by decide) (Nat.le_of_ble_eq_true rfl) rfl ?_
  refine aw_iload_n (x := 4) rfl dX0_isLong_0 ?_
  refine aw_rS (v := some (.int 2)) (o2 := o) ct_X0_ringCount_4 (mm_fit_of cbX0_ringCount (by decide) (by decide)) wq303 wq304 rfl rfl (Nat.le_of_ble_eq_true rfl) (by decide) (by decide) rfl dX0_isLong_1 ?_
  refine aw_iconst (v := 1) (by decide) dX0_isLong_4 ?_
  refine aw_isubz (z := 1) (by decide) dX0_isLong_5 ?_
  refine aw_iload_n (x := 0) rfl dX0_isLong_6 ?_
  refine aw_isubz (z := 1) (by decide) dX0_isLong_7 ?_
  refine aw_istore_n (L2 := [some (.int 4), some (.int 0), some (.int 1)]) (by decide) rfl rfl dX0_isLong_8 ?_
  refine aw_iload_n (x := 4) rfl dX0_isLong_9 ?_
  refine aw_iconst (v := 1) (by decide) dX0_isLong_10 ?_
  refine aw_iaddz (z := 5) (by decide) dX0_isLong_11 ?_
  refine aw_iload_n (x := 1) rfl dX0_isLong_12 ?_
  refine aw_ishrz (z := 2) (by decide) dX0_isLong_13 ?_
  refine aw_iconst (v := 1) (by decide) dX0_isLong_14 ?_
  refine aw_iandz (z := 0) (by decide) dX0_isLong_15 ?_
  refine aw_iconst (v := 1) (by decide) dX0_isLong_16 ?_
  refine aw_icmp_ne (tgt := 24) (by decide) dX0_isLong_17 (fun _ => ?_) (fun z => absurd z (by decide))
  refine aw_iconst (v := 0) (by decide) dX0_isLong_24 ?_
  exact aw_zret rfl (by decide) (by decide) (by decide) dX0_isLong_25 ⟨by first | rfl | (simp [wd_w_row, row_self, row_row]; done) | (simp_all [wd_w_row, row_self, row_row]; done), by first | rfl | (simp [wd_w_row, row_self, row_row]; done) | (simp_all [wd_w_row, row_self, row_row]; done)⟩
theorem ct_X0_isLong_4_1 {ad : Nat → Nat → Nat → Nat} {o : wd_S}  : CT ad MX0_isLong [.int 4, .int 1] o (RT (some (.int 1)) o) := by
  refine CT.of (L := [some (.int 4), some (.int 1), none]) rfl rfl (by decide) (Nat.le_of_ble_eq_true rfl) rfl ?_
  refine aw_iload_n (x := 4) rfl dX0_isLong_0 ?_
  refine aw_rS (v := some (.int 2)) (o2 := o) ct_X0_ringCount_4 (mm_fit_of cbX0_ringCount (by decide) (by decide)) wq303 wq304 rfl rfl (Nat.le_of_ble_eq_true rfl) (by decide) (by decide) rfl dX0_isLong_1 ?_
  refine aw_iconst (v := 1) (by decide) dX0_isLong_4 ?_
  refine aw_isubz (z := 1) (by decide) dX0_isLong_5 ?_
  refine aw_iload_n (x := 1) rfl dX0_isLong_6 ?_
  refine aw_isubz (z := 0) (by decide) dX0_isLong_7 ?_
  refine aw_istore_n (L2 := [some (.int 4), some (.int 1), some (.int 0)]) (by decide) rfl rfl dX0_isLong_8 ?_
  refine aw_iload_n (x := 4) rfl dX0_isLong_9 ?_
  refine aw_iconst (v := 1) (by decide) dX0_isLong_10 ?_
  refine aw_iaddz (z := 5) (by decide) dX0_isLong_11 ?_
  refine aw_iload_n (x := 0) rfl dX0_isLong_12 ?_
  refine aw_ishrz (z := 5) (by decide) dX0_isLong_13 ?_
  refine aw_iconst (v := 1) (by decide) dX0_isLong_14 ?_
  refine aw_iandz (z := 1) (by decide) dX0_isLong_15 ?_
  refine aw_iconst (v := 1) (by decide) dX0_isLong_16 ?_
  refine aw_icmp_ne (tgt := 24) (by decide) dX0_isLong_17 (fun z => absurd z (by decide)) (fun _ => ?_)
  refine aw_iconst (v := 1) (by decide) dX0_isLong_20 ?_
  refine aw_goto (tgt := 25) (by decide) dX0_isLong_21 ?_
  exact aw_zret rfl (by decide) (by decide) (by decide) dX0_isLong_25 ⟨by first | rfl | (simp [wd_w_row, row_self, row_row]; done) | (simp_all [wd_w_row, row_self, row_row]; done), by first | rfl | (simp [wd_w_row, row_self, row_row]; done) | (simp_all [wd_w_row, row_self, row_row]; done)⟩
theorem ct_X0_lengthOf_4 {ad : Nat → Nat → Nat → Nat} {o : wd_S}  : CT ad MX0_lengthOf [.int 4] o (RT (some (.int 9)) o) := by
  refine CT.of (L := [some (.int 4), none, none, none]) rfl rfl (by decide) (Nat.le_of_ble_eq_true rfl) rfl ?_
  refine aw_iload_n (x := 4) rfl dX0_lengthOf_0 ?_
  refine aw_rS (v := some (.int 2)) (o2 := o) ct_X0_ringCount_4 (mm_fit_of cbX0_ringCount (by decide) (by decide)) wq303 wq304 rfl rfl (Nat.le_of_ble_eq_true rfl) (by decide) (by decide) rfl dX0_lengthOf_1 ?_
  refine aw_istore_n (L2 := [some (.int 4), some (.int 2), none, none]) (by decide) rfl rfl dX0_lengthOf_4 ?_
  refine aw_iload_n (x := 2) rfl dX0_lengthOf_5 ?_
  refine aw_iconst (v := 1) (by decide) dX0_lengthOf_6 ?_
  refine aw_isubz (z := 1) (by decide) dX0_lengthOf_7 ?_
  refine aw_iconst (v := 1) (by decide) dX0_lengthOf_8 ?_
  refine aw_imulz (z := 1) (by decide) dX0_lengthOf_9 ?_
  refine aw_iconst (v := 4) (by decide) dX0_lengthOf_10 ?_
  refine aw_iaddz (z := 5) (by decide) dX0_lengthOf_11 ?_
  refine aw_istore_n (L2 := [some (.int 4), some (.int 2), some (.int 5), none]) (by decide) rfl rfl dX0_lengthOf_12 ?_
  refine aw_iconst (v := 0) (by decide) dX0_lengthOf_13 ?_
  refine aw_istore_n (L2 := [some (.int 4), some (.int 2), some (.int 5), some (.int 0)]) (by decide) rfl rfl dX0_lengthOf_14 ?_
  refine aw_iload_n (x := 0) rfl dX0_lengthOf_15 ?_
  refine aw_iload_n (x := 2) rfl dX0_lengthOf_16 ?_
  refine aw_icmp_ge (tgt := 45) (by decide) dX0_lengthOf_17 (fun z => absurd z (by decide)) (fun _ => ?_)
  refine aw_iload_n (x := 5) rfl dX0_lengthOf_20 ?_
  refine aw_iload_n (x := 4) rfl dX0_lengthOf_21 ?_
  refine aw_iconst (v := 1) (by decide) dX0_lengthOf_22 ?_
  refine aw_iaddz (z := 5) (by decide) dX0_lengthOf_23 ?_
  refine aw_iload_n (x := 0) rfl dX0_lengthOf_24 ?_
  refine aw_ishrz (z := 5) (by decide) dX0_lengthOf_25 ?_
  refine aw_iconst (v := 1) (by decide) dX0_lengthOf_26 ?_
  refine aw_iandz (z := 1) (by decide) dX0_lengthOf_27 ?_
  refine aw_iconst (v := 1) (by decide) dX0_lengthOf_28 ?_
  refine aw_icmp_ne (tgt := 36) (by decide) dX0_lengthOf_29 (fun z => absurd z (by decide)) (fun _ => ?_)
  refine aw_iconst (v := 3) (by decide) dX0_lengthOf_32 ?_
  refine aw_goto (tgt := 37) (by decide) dX0_lengthOf_33 ?_
  refine aw_iaddz (z := 8) (by decide) dX0_lengthOf_37 ?_
  refine aw_istore_n (L2 := [some (.int 4), some (.int 2), some (.int 8), some (.int 0)]) (by decide) rfl rfl dX0_lengthOf_38 ?_
  refine aw_iinc (x := 0) (v := 1) (L2 := [some (.int 4), some (.int 2), some (.int 8), some (.int 1)]) rfl (by decide) (by decide) rfl rfl dX0_lengthOf_39 ?_
  refine aw_goto (tgt := 15) (by decide) dX0_lengthOf_42 ?_
  refine aw_iload_n (x := 1) rfl dX0_lengthOf_15 ?_
  refine aw_iload_n (x := 2) rfl dX0_lengthOf_16 ?_
  refine aw_icmp_ge (tgt := 45) (by decide) dX0_lengthOf_17 (fun z => absurd z (by decide)) (fun _ => ?_)
  refine aw_iload_n (x := 8) rfl dX0_lengthOf_20 ?_
  refine aw_iload_n (x := 4) rfl dX0_lengthOf_21 ?_
  refine aw_iconst (v := 1) (by decide) dX0_lengthOf_22 ?_
  refine aw_iaddz (z := 5) (by decide) dX0_lengthOf_23 ?_
  refine aw_iload_n (x := 1) rfl dX0_lengthOf_24 ?_
  refine aw_ishrz (z := 2) (by decide) dX0_lengthOf_25 ?_
  refine aw_iconst (v := 1) (by decide) dX0_lengthOf_26 ?_
  refine aw_iandz (z := 0) (by decide) dX0_lengthOf_27 ?_
  refine aw_iconst (v := 1) (by decide) dX0_lengthOf_28 ?_
  refine aw_icmp_ne (tgt := 36) (by decide) dX0_lengthOf_29 (fun _ => ?_) (fun z => absurd z (by decide))
  refine aw_iconst (v := 1) (by decide) dX0_lengthOf_36 ?_
  refine aw_iaddz (z := 9) (by decide) dX0_lengthOf_37 ?_
  refine aw_istore_n (L2 := [some (.int 4), some (.int 2), some (.int 9), some (.int 1)]) (by decide) rfl rfl dX0_lengthOf_38 ?_
  refine aw_iinc (x := 1) (v := 2) (L2 := [some (.int 4), some (.int 2), some (.int 9), some (.int 2)]) rfl (by decide) (by decide) rfl rfl dX0_lengthOf_39 ?_
  refine aw_goto (tgt := 15) (by decide) dX0_lengthOf_42 ?_
  refine aw_iload_n (x := 2) rfl dX0_lengthOf_15 ?_
  refine aw_iload_n (x := 2) rfl dX0_lengthOf_16 ?_
  refine aw_icmp_ge (tgt := 45) (by decide) dX0_lengthOf_17 (fun _ => ?_) (fun z => absurd z (by decide))
  refine aw_iload_n (x := 9) rfl dX0_lengthOf_45 ?_
  exact aw_iret rfl (by decide) (by decide) dX0_lengthOf_46 ⟨by first | rfl | (simp [wd_w_row, row_self, row_row]; done) | (simp_all [wd_w_row, row_self, row_row]; done), by first | rfl | (simp [wd_w_row, row_self, row_row]; done) | (simp_all [wd_w_row, row_self, row_row]; done)⟩
theorem ct_X0_soundAt_4 {ad : Nat → Nat → Nat → Nat} {o : wd_S} {t : Int32} : CT ad MX0_soundAt [.int 4, .int t] o (RT (some (.int (tc_s4 t))) o) := by
  refine CT.of (L := [some (.int 4), some (.int t), none, none, none, none, none]) rfl rfl (by decide) (Nat.le_of_ble_eq_true rfl) rfl ?_
  refine aw_iload_n (x := 4) rfl dX0_soundAt_0 ?_
  refine aw_rS (v := some (.int 2)) (o2 := o) ct_X0_ringCount_4 (mm_fit_of cbX0_ringCount (by decide) (by decide)) wq303 wq304 rfl rfl (Nat.le_of_ble_eq_true rfl) (by decide) (by decide) rfl dX0_soundAt_1 ?_
  refine aw_istore_n (L2 := [some (.int 4), some (.int t), some (.int 2), none, none, none, none]) (by decide) rfl rfl dX0_soundAt_4 ?_
  refine aw_iconst (v := 0) (by decide) dX0_soundAt_5 ?_
  refine aw_istore_n (L2 := [some (.int 4), some (.int t), some (.int 2), some (.int 0), none, none, none]) (by decide) rfl rfl dX0_soundAt_6 ?_
  refine aw_iconst (v := 0) (by decide) dX0_soundAt_7 ?_
  refine aw_istore (L2 := [some (.int 4), some (.int t), some (.int 2), some (.int 0), some (.int 0), none, none]) (by decide) rfl rfl dX0_soundAt_8 ?_
  refine aw_iload (x := 0) rfl dX0_soundAt_10 ?_
  refine aw_iload_n (x := 2) rfl dX0_soundAt_12 ?_
  refine aw_icmp_ge (tgt := 71) (by decide) dX0_soundAt_13 (fun z => absurd z (by decide)) (fun _ => ?_)
  refine aw_iload_n (x := 4) rfl dX0_soundAt_16 ?_
  refine aw_iload (x := 0) rfl dX0_soundAt_17 ?_
  refine aw_rS (v := some (.int 0)) (o2 := o) ct_X0_isLong_4_0 (mm_fit_of cbX0_isLong (by decide) (by decide)) wq309 wq310 rfl rfl (Nat.le_of_ble_eq_true rfl) (by decide) (by decide) rfl dX0_soundAt_19 ?_
  refine aw_istore (L2 := [some (.int 4), some (.int t), some (.int 2), some (.int 0), some (.int 0), some (.int 0), none]) (by decide) rfl rfl dX0_soundAt_22 ?_
  refine aw_iload_n (x := 0) rfl dX0_soundAt_24 ?_
  refine aw_iload (x := 0) rfl dX0_soundAt_25 ?_
  refine aw_if_eq (tgt := 34) (by decide) dX0_soundAt_27 (fun _ => ?_) (fun z => absurd z (by decide))
  refine aw_iconst (v := 1) (by decide) dX0_soundAt_34 ?_
  refine aw_iaddz (z := 1) (by decide) dX0_soundAt_35 ?_
  refine aw_istore (L2 := [some (.int 4), some (.int t), some (.int 2), some (.int 0), some (.int 0), some (.int 0), some (.int 1)]) (by decide) rfl rfl dX0_soundAt_36 ?_
  refine aw_iload_n (x := t) rfl dX0_soundAt_38 ?_
  refine aw_iload_n (x := 0) rfl dX0_soundAt_39 ?_
  refine aw_icmp_lt (tgt := 60) (by decide) dX0_soundAt_40 (fun b1 => ?_) (fun b1 => ?_)
  · skip
    refine aw_iload (x := 1) rfl dX0_soundAt_60 ?_
    refine aw_iconst (v := 1) (by decide) dX0_soundAt_62 ?_
    refine aw_iaddz (z := 2) (by decide) dX0_soundAt_63 ?_
    refine aw_istore_n (L2 := [some (.int 4), some (.int t), some (.int 2), some (.int 2), some (.int 0), some (.int 0), some (.int 1)]) (by decide) rfl rfl dX0_soundAt_64 ?_
    refine aw_iinc (x := 0) (v := 1) (L2 := [some (.int 4), some (.int t), some (.int 2), some (.int 2), some (.int 1), some (.int 0), some (.int 1)]) rfl (by decide) (by decide) rfl rfl dX0_soundAt_65 ?_
    refine aw_goto (tgt := 10) (by decide) dX0_soundAt_68 ?_
    refine aw_iload (x := 1) rfl dX0_soundAt_10 ?_
    refine aw_iload_n (x := 2) rfl dX0_soundAt_12 ?_
    refine aw_icmp_ge (tgt := 71) (by decide) dX0_soundAt_13 (fun z => absurd z (by decide)) (fun _ => ?_)
    refine aw_iload_n (x := 4) rfl dX0_soundAt_16 ?_
    refine aw_iload (x := 1) rfl dX0_soundAt_17 ?_
    refine aw_rS (v := some (.int 1)) (o2 := o) ct_X0_isLong_4_1 (mm_fit_of cbX0_isLong (by decide) (by decide)) wq309 wq310 rfl rfl (Nat.le_of_ble_eq_true rfl) (by decide) (by decide) rfl dX0_soundAt_19 ?_
    refine aw_istore (L2 := [some (.int 4), some (.int t), some (.int 2), some (.int 2), some (.int 1), some (.int 1), some (.int 1)]) (by decide) rfl rfl dX0_soundAt_22 ?_
    refine aw_iload_n (x := 2) rfl dX0_soundAt_24 ?_
    refine aw_iload (x := 1) rfl dX0_soundAt_25 ?_
    refine aw_if_eq (tgt := 34) (by decide) dX0_soundAt_27 (fun z => absurd z (by decide)) (fun _ => ?_)
    refine aw_iconst (v := 3) (by decide) dX0_soundAt_30 ?_
    refine aw_goto (tgt := 35) (by decide) dX0_soundAt_31 ?_
    refine aw_iaddz (z := 5) (by decide) dX0_soundAt_35 ?_
    refine aw_istore (L2 := [some (.int 4), some (.int t), some (.int 2), some (.int 2), some (.int 1), some (.int 1), some (.int 5)]) (by decide) rfl rfl dX0_soundAt_36 ?_
    refine aw_iload_n (x := t) rfl dX0_soundAt_38 ?_
    refine aw_iload_n (x := 2) rfl dX0_soundAt_39 ?_
    refine aw_icmp_lt (tgt := 60) (by decide) dX0_soundAt_40 (fun b2 => ?_) (fun b2 => ?_)
    · skip
      refine aw_iload (x := 5) rfl dX0_soundAt_60 ?_
      refine aw_iconst (v := 1) (by decide) dX0_soundAt_62 ?_
      refine aw_iaddz (z := 6) (by decide) dX0_soundAt_63 ?_
      refine aw_istore_n (L2 := [some (.int 4), some (.int t), some (.int 2), some (.int 6), some (.int 1), some (.int 1), some (.int 5)]) (by decide) rfl rfl dX0_soundAt_64 ?_
      refine aw_iinc (x := 1) (v := 2) (L2 := [some (.int 4), some (.int t), some (.int 2), some (.int 6), some (.int 2), some (.int 1), some (.int 5)]) rfl (by decide) (by decide) rfl rfl dX0_soundAt_65 ?_
      refine aw_goto (tgt := 10) (by decide) dX0_soundAt_68 ?_
      refine aw_iload (x := 2) rfl dX0_soundAt_10 ?_
      refine aw_iload_n (x := 2) rfl dX0_soundAt_12 ?_
      refine aw_icmp_ge (tgt := 71) (by decide) dX0_soundAt_13 (fun _ => ?_) (fun z => absurd z (by decide))
      refine aw_iconst (v := 0) (by decide) dX0_soundAt_71 ?_
      exact aw_iret rfl (by decide) (by decide) dX0_soundAt_72 ⟨by first | rfl | (simp [tc_s4, wd_w_row, row_self, row_row, b1, b2]; done) | (simp_all [tc_s4, wd_w_row, row_self, row_row, b1, b2]; done), by first | rfl | (simp [tc_s4, wd_w_row, row_self, row_row, b1, b2]; done) | (simp_all [tc_s4, wd_w_row, row_self, row_row, b1, b2]; done)⟩
    · skip
      refine aw_iload_n (x := t) rfl dX0_soundAt_43 ?_
      refine aw_iload (x := 5) rfl dX0_soundAt_44 ?_
      refine aw_icmp_ge (tgt := 60) (by decide) dX0_soundAt_46 (fun b3 => ?_) (fun b3 => ?_)
      · skip
        refine aw_iload (x := 5) rfl dX0_soundAt_60 ?_
        refine aw_iconst (v := 1) (by decide) dX0_soundAt_62 ?_
        refine aw_iaddz (z := 6) (by decide) dX0_soundAt_63 ?_
        refine aw_istore_n (L2 := [some (.int 4), some (.int t), some (.int 2), some (.int 6), some (.int 1), some (.int 1), some (.int 5)]) (by decide) rfl rfl dX0_soundAt_64 ?_
        refine aw_iinc (x := 1) (v := 2) (L2 := [some (.int 4), some (.int t), some (.int 2), some (.int 6), some (.int 2), some (.int 1), some (.int 5)]) rfl (by decide) (by decide) rfl rfl dX0_soundAt_65 ?_
        refine aw_goto (tgt := 10) (by decide) dX0_soundAt_68 ?_
        refine aw_iload (x := 2) rfl dX0_soundAt_10 ?_
        refine aw_iload_n (x := 2) rfl dX0_soundAt_12 ?_
        refine aw_icmp_ge (tgt := 71) (by decide) dX0_soundAt_13 (fun _ => ?_) (fun z => absurd z (by decide))
        refine aw_iconst (v := 0) (by decide) dX0_soundAt_71 ?_
        exact aw_iret rfl (by decide) (by decide) dX0_soundAt_72 ⟨by first | rfl | (simp [tc_s4, wd_w_row, row_self, row_row, b1, b2, b3]; done) | (simp_all [tc_s4, wd_w_row, row_self, row_row, b1, b2, b3]; done), by first | rfl | (simp [tc_s4, wd_w_row, row_self, row_row, b1, b2, b3]; done) | (simp_all [tc_s4, wd_w_row, row_self, row_row, b1, b2, b3]; done)⟩
      · skip
        refine aw_iload (x := 1) rfl dX0_soundAt_49 ?_
        refine aw_if_eq (tgt := 58) (by decide) dX0_soundAt_51 (fun z => absurd z (by decide)) (fun _ => ?_)
        refine aw_iconst (v := 2) (by decide) dX0_soundAt_54 ?_
        refine aw_goto (tgt := 59) (by decide) dX0_soundAt_55 ?_
        exact aw_iret rfl (by decide) (by decide) dX0_soundAt_59 ⟨by first | rfl | (simp [tc_s4, wd_w_row, row_self, row_row, b1, b2, b3]; done) | (simp_all [tc_s4, wd_w_row, row_self, row_row, b1, b2, b3]; done), by first | rfl | (simp [tc_s4, wd_w_row, row_self, row_row, b1, b2, b3]; done) | (simp_all [tc_s4, wd_w_row, row_self, row_row, b1, b2, b3]; done)⟩
  · skip
    refine aw_iload_n (x := t) rfl dX0_soundAt_43 ?_
    refine aw_iload (x := 1) rfl dX0_soundAt_44 ?_
    refine aw_icmp_ge (tgt := 60) (by decide) dX0_soundAt_46 (fun b4 => ?_) (fun b4 => ?_)
    · skip
      refine aw_iload (x := 1) rfl dX0_soundAt_60 ?_
      refine aw_iconst (v := 1) (by decide) dX0_soundAt_62 ?_
      refine aw_iaddz (z := 2) (by decide) dX0_soundAt_63 ?_
      refine aw_istore_n (L2 := [some (.int 4), some (.int t), some (.int 2), some (.int 2), some (.int 0), some (.int 0), some (.int 1)]) (by decide) rfl rfl dX0_soundAt_64 ?_
      refine aw_iinc (x := 0) (v := 1) (L2 := [some (.int 4), some (.int t), some (.int 2), some (.int 2), some (.int 1), some (.int 0), some (.int 1)]) rfl (by decide) (by decide) rfl rfl dX0_soundAt_65 ?_
      refine aw_goto (tgt := 10) (by decide) dX0_soundAt_68 ?_
      refine aw_iload (x := 1) rfl dX0_soundAt_10 ?_
      refine aw_iload_n (x := 2) rfl dX0_soundAt_12 ?_
      refine aw_icmp_ge (tgt := 71) (by decide) dX0_soundAt_13 (fun z => absurd z (by decide)) (fun _ => ?_)
      refine aw_iload_n (x := 4) rfl dX0_soundAt_16 ?_
      refine aw_iload (x := 1) rfl dX0_soundAt_17 ?_
      refine aw_rS (v := some (.int 1)) (o2 := o) ct_X0_isLong_4_1 (mm_fit_of cbX0_isLong (by decide) (by decide)) wq309 wq310 rfl rfl (Nat.le_of_ble_eq_true rfl) (by decide) (by decide) rfl dX0_soundAt_19 ?_
      refine aw_istore (L2 := [some (.int 4), some (.int t), some (.int 2), some (.int 2), some (.int 1), some (.int 1), some (.int 1)]) (by decide) rfl rfl dX0_soundAt_22 ?_
      refine aw_iload_n (x := 2) rfl dX0_soundAt_24 ?_
      refine aw_iload (x := 1) rfl dX0_soundAt_25 ?_
      refine aw_if_eq (tgt := 34) (by decide) dX0_soundAt_27 (fun z => absurd z (by decide)) (fun _ => ?_)
      refine aw_iconst (v := 3) (by decide) dX0_soundAt_30 ?_
      refine aw_goto (tgt := 35) (by decide) dX0_soundAt_31 ?_
      refine aw_iaddz (z := 5) (by decide) dX0_soundAt_35 ?_
      refine aw_istore (L2 := [some (.int 4), some (.int t), some (.int 2), some (.int 2), some (.int 1), some (.int 1), some (.int 5)]) (by decide) rfl rfl dX0_soundAt_36 ?_
      refine aw_iload_n (x := t) rfl dX0_soundAt_38 ?_
      refine aw_iload_n (x := 2) rfl dX0_soundAt_39 ?_
      refine aw_icmp_lt (tgt := 60) (by decide) dX0_soundAt_40 (fun b5 => ?_) (fun b5 => ?_)
      · skip
        refine aw_iload (x := 5) rfl dX0_soundAt_60 ?_
        refine aw_iconst (v := 1) (by decide) dX0_soundAt_62 ?_
        refine aw_iaddz (z := 6) (by decide) dX0_soundAt_63 ?_
        refine aw_istore_n (L2 := [some (.int 4), some (.int t), some (.int 2), some (.int 6), some (.int 1), some (.int 1), some (.int 5)]) (by decide) rfl rfl dX0_soundAt_64 ?_
        refine aw_iinc (x := 1) (v := 2) (L2 := [some (.int 4), some (.int t), some (.int 2), some (.int 6), some (.int 2), some (.int 1), some (.int 5)]) rfl (by decide) (by decide) rfl rfl dX0_soundAt_65 ?_
        refine aw_goto (tgt := 10) (by decide) dX0_soundAt_68 ?_
        refine aw_iload (x := 2) rfl dX0_soundAt_10 ?_
        refine aw_iload_n (x := 2) rfl dX0_soundAt_12 ?_
        refine aw_icmp_ge (tgt := 71) (by decide) dX0_soundAt_13 (fun _ => ?_) (fun z => absurd z (by decide))
        refine aw_iconst (v := 0) (by decide) dX0_soundAt_71 ?_
        exact aw_iret rfl (by decide) (by decide) dX0_soundAt_72 ⟨by first | rfl | (simp [tc_s4, wd_w_row, row_self, row_row, b1, b4, b5]; done) | (simp_all [tc_s4, wd_w_row, row_self, row_row, b1, b4, b5]; done), by first | rfl | (simp [tc_s4, wd_w_row, row_self, row_row, b1, b4, b5]; done) | (simp_all [tc_s4, wd_w_row, row_self, row_row, b1, b4, b5]; done)⟩
      · skip
        refine aw_iload_n (x := t) rfl dX0_soundAt_43 ?_
        refine aw_iload (x := 5) rfl dX0_soundAt_44 ?_
        refine aw_icmp_ge (tgt := 60) (by decide) dX0_soundAt_46 (fun b6 => ?_) (fun b6 => ?_)
        · skip
          refine aw_iload (x := 5) rfl dX0_soundAt_60 ?_
          refine aw_iconst (v := 1) (by decide) dX0_soundAt_62 ?_
          refine aw_iaddz (z := 6) (by decide) dX0_soundAt_63 ?_
          refine aw_istore_n (L2 := [some (.int 4), some (.int t), some (.int 2), some (.int 6), some (.int 1), some (.int 1), some (.int 5)]) (by decide) rfl rfl dX0_soundAt_64 ?_
          refine aw_iinc (x := 1) (v := 2) (L2 := [some (.int 4), some (.int t), some (.int 2), some (.int 6), some (.int 2), some (.int 1), some (.int 5)]) rfl (by decide) (by decide) rfl rfl dX0_soundAt_65 ?_
          refine aw_goto (tgt := 10) (by decide) dX0_soundAt_68 ?_
          refine aw_iload (x := 2) rfl dX0_soundAt_10 ?_
          refine aw_iload_n (x := 2) rfl dX0_soundAt_12 ?_
          refine aw_icmp_ge (tgt := 71) (by decide) dX0_soundAt_13 (fun _ => ?_) (fun z => absurd z (by decide))
          refine aw_iconst (v := 0) (by decide) dX0_soundAt_71 ?_
          exact aw_iret rfl (by decide) (by decide) dX0_soundAt_72 ⟨by first | rfl | (simp [tc_s4, wd_w_row, row_self, row_row, b1, b4, b5, b6]; done) | (simp_all [tc_s4, wd_w_row, row_self, row_row, b1, b4, b5, b6]; done), by first | rfl | (simp [tc_s4, wd_w_row, row_self, row_row, b1, b4, b5, b6]; done) | (simp_all [tc_s4, wd_w_row, row_self, row_row, b1, b4, b5, b6]; done)⟩
        · skip
          refine aw_iload (x := 1) rfl dX0_soundAt_49 ?_
          refine aw_if_eq (tgt := 58) (by decide) dX0_soundAt_51 (fun z => absurd z (by decide)) (fun _ => ?_)
          refine aw_iconst (v := 2) (by decide) dX0_soundAt_54 ?_
          refine aw_goto (tgt := 59) (by decide) dX0_soundAt_55 ?_
          exact aw_iret rfl (by decide) (by decide) dX0_soundAt_59 ⟨by first | rfl | (simp [tc_s4, wd_w_row, row_self, row_row, b1, b4, b5, b6]; done) | (simp_all [tc_s4, wd_w_row, row_self, row_row, b1, b4, b5, b6]; done), by first | rfl | (simp [tc_s4, wd_w_row, row_self, row_row, b1, b4, b5, b6]; done) | (simp_all [tc_s4, wd_w_row, row_self, row_row, b1, b4, b5, b6]; done)⟩
    · skip
      refine aw_iload (x := 0) rfl dX0_soundAt_49 ?_
      refine aw_if_eq (tgt := 58) (by decide) dX0_soundAt_51 (fun _ => ?_) (fun z => absurd z (by decide))
      refine aw_iconst (v := 1) (by decide) dX0_soundAt_58 ?_
      exact aw_iret rfl (by decide) (by decide) dX0_soundAt_59 ⟨by first | rfl | (simp [tc_s4, wd_w_row, row_self, row_row, b1, b4]; done) | (simp_all [tc_s4, wd_w_row, row_self, row_row, b1, b4]; done), by first | rfl | (simp [tc_s4, wd_w_row, row_self, row_row, b1, b4]; done) | (simp_all [tc_s4, wd_w_row, row_self, row_row, b1, b4]; done)⟩
theorem ct_X0_ringCount_5 {ad : Nat → Nat → Nat → Nat} {o : wd_S}  : CT ad MX0_ringCount [.int 5] o (RT (some (.int 2)) o) := by
  refine CT.of (L := [some (.int 5), none]) rfl rfl (by decide) (Nat.le_of_ble_eq_true rfl) rfl ?_
  refine aw_iconst (v := 0) (by decide) dX0_ringCount_0 ?_
  refine aw_istore_n (L2 := [some (.int 5), some (.int 0)]) (by decide) rfl rfl dX0_ringCount_1 ?_
  refine aw_iload_n (x := 0) rfl dX0_ringCount_2 ?_
  refine aw_iconst (v := 3) (by decide) dX0_ringCount_3 ?_
  refine aw_icmp_ge (tgt := 23) (by decide) dX0_ringCount_4 (fun z => absurd z (by decide)) (fun _ => ?_)
  refine aw_iload_n (x := 5) rfl dX0_ringCount_7 ?_
  refine aw_iconst (v := 1) (by decide) dX0_ringCount_8 ?_
  refine aw_iaddz (z := 6) (by decide) dX0_ringCount_9 ?_
  refine aw_iload_n (x := 0) rfl dX0_ringCount_10 ?_
  refine aw_iconst (v := 1) (by decide) dX0_ringCount_11 ?_
  refine aw_iaddz (z := 1) (by decide) dX0_ringCount_12 ?_
  refine aw_ishrz (z := 3) (by decide) dX0_ringCount_13 ?_
  refine aw_if_eq (tgt := 23) (by decide) dX0_ringCount_14 (fun z => absurd z (by decide)) (fun _ => ?_)
  refine aw_iinc (x := 0) (v := 1) (L2 := [some (.int 5), some (.int 1)]) rfl (by decide) (by decide) rfl rfl dX0_ringCount_17 ?_
  refine aw_goto (tgt := 2) (by decide) dX0_ringCount_20 ?_
  refine aw_iload_n (x := 1) rfl dX0_ringCount_2 ?_
  refine aw_iconst (v := 3) (by decide) dX0_ringCount_3 ?_
  refine aw_icmp_ge (tgt := 23) (by decide) dX0_ringCount_4 (fun z => absurd z (by decide)) (fun _ => ?_)
  refine aw_iload_n (x := 5) rfl dX0_ringCount_7 ?_
  refine aw_iconst (v := 1) (by decide) dX0_ringCount_8 ?_
  refine aw_iaddz (z := 6) (by decide) dX0_ringCount_9 ?_
  refine aw_iload_n (x := 1) rfl dX0_ringCount_10 ?_
  refine aw_iconst (v := 1) (by decide) dX0_ringCount_11 ?_
  refine aw_iaddz (z := 2) (by decide) dX0_ringCount_12 ?_
  refine aw_ishrz (z := 1) (by decide) dX0_ringCount_13 ?_
  refine aw_if_eq (tgt := 23) (by decide) dX0_ringCount_14 (fun z => absurd z (by decide)) (fun _ => ?_)
  refine aw_iinc (x := 1) (v := 2) (L2 := [some (.int 5), some (.int 2)]) rfl (by decide) (by decide) rfl rfl dX0_ringCount_17 ?_
  refine aw_goto (tgt := 2) (by decide) dX0_ringCount_20 ?_
  refine aw_iload_n (x := 2) rfl dX0_ringCount_2 ?_
  refine aw_iconst (v := 3) (by decide) dX0_ringCount_3 ?_
  refine aw_icmp_ge (tgt := 23) (by decide) dX0_ringCount_4 (fun z => absurd z (by decide)) (fun _ => ?_)
  refine aw_iload_n (x := 5) rfl dX0_ringCount_7 ?_
  refine aw_iconst (v := 1) (by decide) dX0_ringCount_8 ?_
  refine aw_iaddz (z := 6) (by decide) dX0_ringCount_9 ?_
  refine aw_iload_n (x := 2) rfl dX0_ringCount_10 ?_
  refine aw_iconst (v := 1) (by decide) dX0_ringCount_11 ?_
  refine aw_iaddz (z := 3) (by decide) dX0_ringCount_12 ?_
  refine aw_ishrz (z := 0) (by decide) dX0_ringCount_13 ?_
  refine aw_if_eq (tgt := 23) (by decide) dX0_ringCount_14 (fun _ => ?_) (fun z => absurd z (by decide))
  refine aw_iload_n (x := 2) rfl dX0_ringCount_23 ?_
  exact aw_iret rfl (by decide) (by decide) dX0_ringCount_24 ⟨by first | rfl | (simp [wd_w_row, row_self, row_row]; done) | (simp_all [wd_w_row, row_self, row_row]; done), by first | rfl | (simp [wd_w_row, row_self, row_row]; done) | (simp_all [wd_w_row, row_self, row_row]; done)⟩
theorem ct_X0_isLong_5_0 {ad : Nat → Nat → Nat → Nat} {o : wd_S}  : CT ad MX0_isLong [.int 5, .int 0] o (RT (some (.int 1)) o) := by
  refine CT.of (L := [some (.int 5), some (.int 0), none]) rfl rfl (by decide) (Nat.le_of_ble_eq_true rfl) rfl ?_
  refine aw_iload_n (x := 5) rfl dX0_isLong_0 ?_
  refine aw_rS (v := some (.int 2)) (o2 := o) ct_X0_ringCount_5 (mm_fit_of cbX0_ringCount (by decide) (by decide)) wq303 wq304 rfl rfl (Nat.le_of_ble_eq_true rfl) (by decide) (by decide) rfl dX0_isLong_1 ?_
  refine aw_iconst (v := 1) (by decide) dX0_isLong_4 ?_
  refine aw_isubz (z := 1) (by decide) dX0_isLong_5 ?_
  refine aw_iload_n (x := 0) rfl dX0_isLong_6 ?_
  refine aw_isubz (z := 1) (by decide) dX0_isLong_7 ?_
  refine aw_istore_n (L2 := [some (.int 5), some (.int 0), some (.int 1)]) (by decide) rfl rfl dX0_isLong_8 ?_
  refine aw_iload_n (x := 5) rfl dX0_isLong_9 ?_
  refine aw_iconst (v := 1) (by decide) dX0_isLong_10 ?_
  refine aw_iaddz (z := 6) (by decide) dX0_isLong_11 ?_
  refine aw_iload_n (x := 1) rfl dX0_isLong_12 ?_
  refine aw_ishrz (z := 3) (by decide) dX0_isLong_13 ?_
  refine aw_iconst (v := 1) (by decide) dX0_isLong_14 ?_
  refine aw_iandz (z := 1) (by decide) dX0_isLong_15 ?_
  refine aw_iconst (v := 1) (by decide) dX0_isLong_16 ?_
  refine aw_icmp_ne (tgt := 24) (by decide) dX0_isLong_17 (fun z => absurd z (by decide)) (fun _ => ?_)
  refine aw_iconst (v := 1) (by decide) dX0_isLong_20 ?_
  refine aw_goto (tgt := 25) (by decide) dX0_isLong_21 ?_
  exact aw_zret rfl (by decide) (by decide) (by decide) dX0_isLong_25 ⟨by first | rfl | (simp [wd_w_row, row_self, row_row]; done) | (simp_all [wd_w_row, row_self, row_row]; done), by first | rfl | (simp [wd_w_row, row_self, row_row]; done) | (simp_all [wd_w_row, row_self, row_row]; done)⟩
theorem ct_X0_isLong_5_1 {ad : Nat → Nat → Nat → Nat} {o : wd_S}  : CT ad MX0_isLong [.int 5, .int 1] o (RT (some (.int 0)) o) := by
  refine CT.of (L := [some (.int 5), some (.int 1), none]) rfl rfl (by decide) (Nat.le_of_ble_eq_true rfl) rfl ?_
  refine aw_iload_n (x := 5) rfl dX0_isLong_0 ?_
  refine aw_rS (v := some (.int 2)) (o2 := o) ct_X0_ringCount_5 (mm_fit_of cbX0_ringCount (by decide) (by decide)) wq303 wq304 rfl rfl (Nat.le_of_ble_eq_true rfl) (by decide) (by decide) rfl dX0_isLong_1 ?_
  refine aw_iconst (v := 1) (by decide) dX0_isLong_4 ?_
  refine aw_isubz (z := 1) (by decide) dX0_isLong_5 ?_
  refine aw_iload_n (x := 1) rfl dX0_isLong_6 ?_
  refine aw_isubz (z := 0) (by decide) dX0_isLong_7 ?_
  refine aw_istore_n (L2 := [some (.int 5), some (.int 1), some (.int 0)]) (by decide) rfl rfl dX0_isLong_8 ?_
  refine aw_iload_n (x := 5) rfl dX0_isLong_9 ?_
  refine aw_iconst (v := 1) (by decide) dX0_isLong_10 ?_
  refine aw_iaddz (z := 6) (by decide) dX0_isLong_11 ?_
  refine aw_iload_n (x := 0) rfl dX0_isLong_12 ?_
  refine aw_ishrz (z := 6) (by decide) dX0_isLong_13 ?_
  refine aw_iconst (v := 1) (by decide) dX0_isLong_14 ?_
  refine aw_iandz (z := 0) (by decide) dX0_isLong_15 ?_
  refine aw_iconst (v := 1) (by decide) dX0_isLong_16 ?_
  refine aw_icmp_ne (tgt := 24) (by decide) dX0_isLong_17 (fun _ => ?_) (fun z => absurd z (by decide))
  refine aw_iconst (v := 0) (by decide) dX0_isLong_24 ?_
  exact aw_zret rfl (by decide) (by decide) (by decide) dX0_isLong_25 ⟨by first | rfl | (simp [wd_w_row, row_self, row_row]; done) | (simp_all [wd_w_row, row_self, row_row]; done), by first | rfl | (simp [wd_w_row, row_self, row_row]; done) | (simp_all [wd_w_row, row_self, row_row]; done)⟩
theorem ct_X0_lengthOf_5 {ad : Nat → Nat → Nat → Nat} {o : wd_S}  : CT ad MX0_lengthOf [.int 5] o (RT (some (.int 9)) o) := by
  refine CT.of (L := [some (.int 5), none, none, none]) rfl rfl (by decide) (Nat.le_of_ble_eq_true rfl) rfl ?_
  refine aw_iload_n (x := 5) rfl dX0_lengthOf_0 ?_
  refine aw_rS (v := some (.int 2)) (o2 := o) ct_X0_ringCount_5 (mm_fit_of cbX0_ringCount (by decide) (by decide)) wq303 wq304 rfl rfl (Nat.le_of_ble_eq_true rfl) (by decide) (by decide) rfl dX0_lengthOf_1 ?_
  refine aw_istore_n (L2 := [some (.int 5), some (.int 2), none, none]) (by decide) rfl rfl dX0_lengthOf_4 ?_
  refine aw_iload_n (x := 2) rfl dX0_lengthOf_5 ?_
  refine aw_iconst (v := 1) (by decide) dX0_lengthOf_6 ?_
  refine aw_isubz (z := 1) (by decide) dX0_lengthOf_7 ?_
  refine aw_iconst (v := 1) (by decide) dX0_lengthOf_8 ?_
  refine aw_imulz (z := 1) (by decide) dX0_lengthOf_9 ?_
  refine aw_iconst (v := 4) (by decide) dX0_lengthOf_10 ?_
  refine aw_iaddz (z := 5) (by decide) dX0_lengthOf_11 ?_
  refine aw_istore_n (L2 := [some (.int 5), some (.int 2), some (.int 5), none]) (by decide) rfl rfl dX0_lengthOf_12 ?_
  refine aw_iconst (v := 0) (by decide) dX0_lengthOf_13 ?_
  refine aw_istore_n (L2 := [some (.int 5), some (.int 2), some (.int 5), some (.int 0)]) (by decide) rfl rfl dX0_lengthOf_14 ?_
  refine aw_iload_n (x := 0) rfl dX0_lengthOf_15 ?_
  refine aw_iload_n (x := 2) rfl dX0_lengthOf_16 ?_
  refine aw_icmp_ge (tgt := 45) (by decide) dX0_lengthOf_17 (fun z => absurd z (by decide)) (fun _ => ?_)
  refine aw_iload_n (x := 5) rfl dX0_lengthOf_20 ?_
  refine aw_iload_n (x := 5) rfl dX0_lengthOf_21 ?_
  refine aw_iconst (v := 1) (by decide) dX0_lengthOf_22 ?_
  refine aw_iaddz (z := 6) (by decide) dX0_lengthOf_23 ?_
  refine aw_iload_n (x := 0) rfl dX0_lengthOf_24 ?_
  refine aw_ishrz (z := 6) (by decide) dX0_lengthOf_25 ?_
  refine aw_iconst (v := 1) (by decide) dX0_lengthOf_26 ?_
  refine aw_iandz (z := 0) (by decide) dX0_lengthOf_27 ?_
  refine aw_iconst (v := 1) (by decide) dX0_lengthOf_28 ?_
  refine aw_icmp_ne (tgt := 36) (by decide) dX0_lengthOf_29 (fun _ => ?_) (fun z => absurd z (by decide))
  refine aw_iconst (v := 1) (by decide) dX0_lengthOf_36 ?_
  refine aw_iaddz (z := 6) (by decide) dX0_lengthOf_37 ?_
  refine aw_istore_n (L2 := [some (.int 5), some (.int 2), some (.int 6), some (.int 0)]) (by decide) rfl rfl dX0_lengthOf_38 ?_
  refine aw_iinc (x := 0) (v := 1) (L2 := [some (.int 5), some (.int 2), some (.int 6), some (.int 1)]) rfl (by decide) (by decide) rfl rfl dX0_lengthOf_39 ?_
  refine aw_goto (tgt := 15) (by decide) dX0_lengthOf_42 ?_
  refine aw_iload_n (x := 1) rfl dX0_lengthOf_15 ?_
  refine aw_iload_n (x := 2) rfl dX0_lengthOf_16 ?_
  refine aw_icmp_ge (tgt := 45) (by decide) dX0_lengthOf_17 (fun z => absurd z (by decide)) (fun _ => ?_)
  refine aw_iload_n (x := 6) rfl dX0_lengthOf_20 ?_
  refine aw_iload_n (x := 5) rfl dX0_lengthOf_21 ?_
  refine aw_iconst (v := 1) (by decide) dX0_lengthOf_22 ?_
  refine aw_iaddz (z := 6) (by decide) dX0_lengthOf_23 ?_
  refine aw_iload_n (x := 1) rfl dX0_lengthOf_24 ?_
  refine aw_ishrz (z := 3) (by decide) dX0_lengthOf_25 ?_
  refine aw_iconst (v := 1) (by decide) dX0_lengthOf_26 ?_
  refine aw_iandz (z := 1) (by decide) dX0_lengthOf_27 ?_
  refine aw_iconst (v := 1) (by decide) dX0_lengthOf_28 ?_
  refine aw_icmp_ne (tgt := 36) (by decide) dX0_lengthOf_29 (fun z => absurd z (by decide)) (fun _ => ?_)
  refine aw_iconst (v := 3) (by decide) dX0_lengthOf_32 ?_
  refine aw_goto (tgt := 37) (by decide) dX0_lengthOf_33 ?_
  refine aw_iaddz (z := 9) (by decide) dX0_lengthOf_37 ?_
  refine aw_istore_n (L2 := [some (.int 5), some (.int 2), some (.int 9), some (.int 1)]) (by decide) rfl rfl dX0_lengthOf_38 ?_
  refine aw_iinc (x := 1) (v := 2) (L2 := [some (.int 5), some (.int 2), some (.int 9), some (.int 2)]) rfl (by decide) (by decide) rfl rfl dX0_lengthOf_39 ?_
  refine aw_goto (tgt := 15) (by decide) dX0_lengthOf_42 ?_
  refine aw_iload_n (x := 2) rfl dX0_lengthOf_15 ?_
  refine aw_iload_n (x := 2) rfl dX0_lengthOf_16 ?_
  refine aw_icmp_ge (tgt := 45) (by decide) dX0_lengthOf_17 (fun _ => ?_) (fun z => absurd z (by decide))
  refine aw_iload_n (x := 9) rfl dX0_lengthOf_45 ?_
  exact aw_iret rfl (by decide) (by decide) dX0_lengthOf_46 ⟨by first | rfl | (simp [wd_w_row, row_self, row_row]; done) | (simp_all [wd_w_row, row_self, row_row]; done), by first | rfl | (simp [wd_w_row, row_self, row_row]; done) | (simp_all [wd_w_row, row_self, row_row]; done)⟩
theorem ct_X0_soundAt_5 {ad : Nat → Nat → Nat → Nat} {o : wd_S} {t : Int32} : CT ad MX0_soundAt [.int 5, .int t] o (RT (some (.int (tc_s5 t))) o) := by
  refine CT.of (L := [some (.int 5), some (.int t), none, none, none, none, none]) rfl rfl (by decide) (Nat.le_of_ble_eq_true rfl) rfl ?_
  refine aw_iload_n (x := 5) rfl dX0_soundAt_0 ?_
  refine aw_rS (v := some (.int 2)) (o2 := o) ct_X0_ringCount_5 (mm_fit_of cbX0_ringCount (by decide) (by decide)) wq303 wq304 rfl rfl (Nat.le_of_ble_eq_true rfl) (by decide) (by decide) rfl dX0_soundAt_1 ?_
  refine aw_istore_n (L2 := [some (.int 5), some (.int t), some (.int 2), none, none, none, none]) (by decide) rfl rfl dX0_soundAt_4 ?_
  refine aw_iconst (v := 0) (by decide) dX0_soundAt_5 ?_
  refine aw_istore_n (L2 := [some (.int 5), some (.int t), some (.int 2), some (.int 0), none, none, none]) (by decide) rfl rfl dX0_soundAt_6 ?_
  refine aw_iconst (v := 0) (by decide) dX0_soundAt_7 ?_
  refine aw_istore (L2 := [some (.int 5), some (.int t), some (.int 2), some (.int 0), some (.int 0), none, none]) (by decide) rfl rfl dX0_soundAt_8 ?_
  refine aw_iload (x := 0) rfl dX0_soundAt_10 ?_
  refine aw_iload_n (x := 2) rfl dX0_soundAt_12 ?_
  refine aw_icmp_ge (tgt := 71) (by decide) dX0_soundAt_13 (fun z => absurd z (by decide)) (fun _ => ?_)
  refine aw_iload_n (x := 5) rfl dX0_soundAt_16 ?_
  refine aw_iload (x := 0) rfl dX0_soundAt_17 ?_
  refine aw_rS (v := some (.int 1)) (o2 := o) ct_X0_isLong_5_0 (mm_fit_of cbX0_isLong (by decide) (by decide)) wq309 wq310 rfl rfl (Nat.le_of_ble_eq_true rfl) (by decide) (by decide) rfl dX0_soundAt_19 ?_
  refine aw_istore (L2 := [some (.int 5), some (.int t), some (.int 2), some (.int 0), some (.int 0), some (.int 1), none]) (by decide) rfl rfl dX0_soundAt_22 ?_
  refine aw_iload_n (x := 0) rfl dX0_soundAt_24 ?_
  refine aw_iload (x := 1) rfl dX0_soundAt_25 ?_
  refine aw_if_eq (tgt := 34) (by decide) dX0_soundAt_27 (fun z => absurd z (by decide)) (fun _ => ?_)
  refine aw_iconst (v := 3) (by decide) dX0_soundAt_30 ?_
  refine aw_goto (tgt := 35) (by decide) dX0_soundAt_31 ?_
  refine aw_iaddz (z := 3) (by decide) dX0_soundAt_35 ?_
  refine aw_istore (L2 := [some (.int 5), some (.int t), some (.int 2), some (.int 0), some (.int 0), some (.int 1), some (.int 3)]) (by decide) rfl rfl dX0_soundAt_36 ?_
  refine aw_iload_n (x := t) rfl dX0_soundAt_38 ?_
  refine aw_iload_n (x := 0) rfl dX0_soundAt_39 ?_
  refine aw_icmp_lt (tgt := 60) (by decide) dX0_soundAt_40 (fun b1 => ?_) (fun b1 => ?_)
  · skip
    refine aw_iload (x := 3) rfl dX0_soundAt_60 ?_
    refine aw_iconst (v := 1) (by decide) dX0_soundAt_62 ?_
    refine aw_iaddz (z := 4) (by decide) dX0_soundAt_63 ?_
    refine aw_istore_n (L2 := [some (.int 5), some (.int t), some (.int 2), some (.int 4), some (.int 0), some (.int 1), some (.int 3)]) (by decide) rfl rfl dX0_soundAt_64 ?_
    refine aw_iinc (x := 0) (v := 1) (L2 := [some (.int 5), some (.int t), some (.int 2), some (.int 4), some (.int 1), some (.int 1), some (.int 3)]) rfl (by decide) (by decide) rfl rfl dX0_soundAt_65 ?_
    refine aw_goto (tgt := 10) (by decide) dX0_soundAt_68 ?_
    refine aw_iload (x := 1) rfl dX0_soundAt_10 ?_
    refine aw_iload_n (x := 2) rfl dX0_soundAt_12 ?_
    refine aw_icmp_ge (tgt := 71) (by decide) dX0_soundAt_13 (fun z => absurd z (by decide)) (fun _ => ?_)
    refine aw_iload_n (x := 5) rfl dX0_soundAt_16 ?_
    refine aw_iload (x := 1) rfl dX0_soundAt_17 ?_
    refine aw_rS (v := some (.int 0)) (o2 := o) ct_X0_isLong_5_1 (mm_fit_of cbX0_isLong (by decide) (by decide)) wq309 wq310 rfl rfl (Nat.le_of_ble_eq_true rfl) (by decide) (by decide) rfl dX0_soundAt_19 ?_
    refine aw_istore (L2 := [some (.int 5), some (.int t), some (.int 2), some (.int 4), some (.int 1), some (.int 0), some (.int 3)]) (by decide) rfl rfl dX0_soundAt_22 ?_
    refine aw_iload_n (x := 4) rfl dX0_soundAt_24 ?_
    refine aw_iload (x := 0) rfl dX0_soundAt_25 ?_
    refine aw_if_eq (tgt := 34) (by decide) dX0_soundAt_27 (fun _ => ?_) (fun z => absurd z (by decide))
    refine aw_iconst (v := 1) (by decide) dX0_soundAt_34 ?_
    refine aw_iaddz (z := 5) (by decide) dX0_soundAt_35 ?_
    refine aw_istore (L2 := [some (.int 5), some (.int t), some (.int 2), some (.int 4), some (.int 1), some (.int 0), some (.int 5)]) (by decide) rfl rfl dX0_soundAt_36 ?_
    refine aw_iload_n (x := t) rfl dX0_soundAt_38 ?_
    refine aw_iload_n (x := 4) rfl dX0_soundAt_39 ?_
    refine aw_icmp_lt (tgt := 60) (by decide) dX0_soundAt_40 (fun b2 => ?_) (fun b2 => ?_)
    · skip
      refine aw_iload (x := 5) rfl dX0_soundAt_60 ?_
      refine aw_iconst (v := 1) (by decide) dX0_soundAt_62 ?_
      refine aw_iaddz (z := 6) (by decide) dX0_soundAt_63 ?_
      refine aw_istore_n (L2 := [some (.int 5), some (.int t), some (.int 2), some (.int 6), some (.int 1), some (.int 0), some (.int 5)]) (by decide) rfl rfl dX0_soundAt_64 ?_
      refine aw_iinc (x := 1) (v := 2) (L2 := [some (.int 5), some (.int t), some (.int 2), some (.int 6), some (.int 2), some (.int 0), some (.int 5)]) rfl (by decide) (by decide) rfl rfl dX0_soundAt_65 ?_
      refine aw_goto (tgt := 10) (by decide) dX0_soundAt_68 ?_
      refine aw_iload (x := 2) rfl dX0_soundAt_10 ?_
      refine aw_iload_n (x := 2) rfl dX0_soundAt_12 ?_
      refine aw_icmp_ge (tgt := 71) (by decide) dX0_soundAt_13 (fun _ => ?_) (fun z => absurd z (by decide))
      refine aw_iconst (v := 0) (by decide) dX0_soundAt_71 ?_
      exact aw_iret rfl (by decide) (by decide) dX0_soundAt_72 ⟨by first | rfl | (simp [tc_s5, wd_w_row, row_self, row_row, b1, b2]; done) | (simp_all [tc_s5, wd_w_row, row_self, row_row, b1, b2]; done), by first | rfl | (simp [tc_s5, wd_w_row, row_self, row_row, b1, b2]; done) | (simp_all [tc_s5, wd_w_row, row_self, row_row, b1, b2]; done)⟩
    · skip
      refine aw_iload_n (x := t) rfl dX0_soundAt_43 ?_
      refine aw_iload (x := 5) rfl dX0_soundAt_44 ?_
      refine aw_icmp_ge (tgt := 60) (by decide) dX0_soundAt_46 (fun b3 => ?_) (fun b3 => ?_)
      · skip
        refine aw_iload (x := 5) rfl dX0_soundAt_60 ?_
        refine aw_iconst (v := 1) (by decide) dX0_soundAt_62 ?_
        refine aw_iaddz (z := 6) (by decide) dX0_soundAt_63 ?_
        refine aw_istore_n (L2 := [some (.int 5), some (.int t), some (.int 2), some (.int 6), some (.int 1), some (.int 0), some (.int 5)]) (by decide) rfl rfl dX0_soundAt_64 ?_
        refine aw_iinc (x := 1) (v := 2) (L2 := [some (.int 5), some (.int t), some (.int 2), some (.int 6), some (.int 2), some (.int 0), some (.int 5)]) rfl (by decide) (by decide) rfl rfl dX0_soundAt_65 ?_
        refine aw_goto (tgt := 10) (by decide) dX0_soundAt_68 ?_
        refine aw_iload (x := 2) rfl dX0_soundAt_10 ?_
        refine aw_iload_n (x := 2) rfl dX0_soundAt_12 ?_
        refine aw_icmp_ge (tgt := 71) (by decide) dX0_soundAt_13 (fun _ => ?_) (fun z => absurd z (by decide))
        refine aw_iconst (v := 0) (by decide) dX0_soundAt_71 ?_
        exact aw_iret rfl (by decide) (by decide) dX0_soundAt_72 ⟨by first | rfl | (simp [tc_s5, wd_w_row, row_self, row_row, b1, b2, b3]; done) | (simp_all [tc_s5, wd_w_row, row_self, row_row, b1, b2, b3]; done), by first | rfl | (simp [tc_s5, wd_w_row, row_self, row_row, b1, b2, b3]; done) | (simp_all [tc_s5, wd_w_row, row_self, row_row, b1, b2, b3]; done)⟩
      · skip
        refine aw_iload (x := 0) rfl dX0_soundAt_49 ?_
        refine aw_if_eq (tgt := 58) (by decide) dX0_soundAt_51 (fun _ => ?_) (fun z => absurd z (by decide))
        refine aw_iconst (v := 1) (by decide) dX0_soundAt_58 ?_
        exact aw_iret rfl (by decide) (by decide) dX0_soundAt_59 ⟨by first | rfl | (simp [tc_s5, wd_w_row, row_self, row_row, b1, b2, b3]; done) | (simp_all [tc_s5, wd_w_row, row_self, row_row, b1, b2, b3]; done), by first | rfl | (simp [tc_s5, wd_w_row, row_self, row_row, b1, b2, b3]; done) | (simp_all [tc_s5, wd_w_row, row_self, row_row, b1, b2, b3]; done)⟩
  · skip
    refine aw_iload_n (x := t) rfl dX0_soundAt_43 ?_
    refine aw_iload (x := 3) rfl dX0_soundAt_44 ?_
    refine aw_icmp_ge (tgt := 60) (by decide) dX0_soundAt_46 (fun b4 => ?_) (fun b4 => ?_)
    · skip
      refine aw_iload (x := 3) rfl dX0_soundAt_60 ?_
      refine aw_iconst (v := 1) (by decide) dX0_soundAt_62 ?_
      refine aw_iaddz (z := 4) (by decide) dX0_soundAt_63 ?_
      refine aw_istore_n (L2 := [some (.int 5), some (.int t), some (.int 2), some (.int 4), some (.int 0), some (.int 1), some (.int 3)]) (by decide) rfl rfl dX0_soundAt_64 ?_
      refine aw_iinc (x := 0) (v := 1) (L2 := [some (.int 5), some (.int t), some (.int 2), some (.int 4), some (.int 1), some (.int 1), some (.int 3)]) rfl (by decide) (by decide) rfl rfl dX0_soundAt_65 ?_
      refine aw_goto (tgt := 10) (by decide) dX0_soundAt_68 ?_
      refine aw_iload (x := 1) rfl dX0_soundAt_10 ?_
      refine aw_iload_n (x := 2) rfl dX0_soundAt_12 ?_
      refine aw_icmp_ge (tgt := 71) (by decide) dX0_soundAt_13 (fun z => absurd z (by decide)) (fun _ => ?_)
      refine aw_iload_n (x := 5) rfl dX0_soundAt_16 ?_
      refine aw_iload (x := 1) rfl dX0_soundAt_17 ?_
      refine aw_rS (v := some (.int 0)) (o2 := o) ct_X0_isLong_5_1 (mm_fit_of cbX0_isLong (by decide) (by decide)) wq309 wq310 rfl rfl (Nat.le_of_ble_eq_true rfl) (by decide) (by decide) rfl dX0_soundAt_19 ?_
      refine aw_istore (L2 := [some (.int 5), some (.int t), some (.int 2), some (.int 4), some (.int 1), some (.int 0), some (.int 3)]) (by decide) rfl rfl dX0_soundAt_22 ?_
      refine aw_iload_n (x := 4) rfl dX0_soundAt_24 ?_
      refine aw_iload (x := 0) rfl dX0_soundAt_25 ?_
      refine aw_if_eq (tgt := 34) (by decide) dX0_soundAt_27 (fun _ => ?_) (fun z => absurd z (by decide))
      refine aw_iconst (v := 1) (by decide) dX0_soundAt_34 ?_
      refine aw_iaddz (z := 5) (by decide) dX0_soundAt_35 ?_
      refine aw_istore (L2 := [some (.int 5), some (.int t), some (.int 2), some (.int 4), some (.int 1), some (.int 0), some (.int 5)]) (by decide) rfl rfl dX0_soundAt_36 ?_
      refine aw_iload_n (x := t) rfl dX0_soundAt_38 ?_
      refine aw_iload_n (x := 4) rfl dX0_soundAt_39 ?_
      refine aw_icmp_lt (tgt := 60) (by decide) dX0_soundAt_40 (fun b5 => ?_) (fun b5 => ?_)
      · skip
        refine aw_iload (x := 5) rfl dX0_soundAt_60 ?_
        refine aw_iconst (v := 1) (by decide) dX0_soundAt_62 ?_
        refine aw_iaddz (z := 6) (by decide) dX0_soundAt_63 ?_
        refine aw_istore_n (L2 := [some (.int 5), some (.int t), some (.int 2), some (.int 6), some (.int 1), some (.int 0), some (.int 5)]) (by decide) rfl rfl dX0_soundAt_64 ?_
        refine aw_iinc (x := 1) (v := 2) (L2 := [some (.int 5), some (.int t), some (.int 2), some (.int 6), some (.int 2), some (.int 0), some (.int 5)]) rfl (by decide) (by decide) rfl rfl dX0_soundAt_65 ?_
        refine aw_goto (tgt := 10) (by decide) dX0_soundAt_68 ?_
        refine aw_iload (x := 2) rfl dX0_soundAt_10 ?_
        refine aw_iload_n (x := 2) rfl dX0_soundAt_12 ?_
        refine aw_icmp_ge (tgt := 71) (by decide) dX0_soundAt_13 (fun _ => ?_) (fun z => absurd z (by decide))
        refine aw_iconst (v := 0) (by decide) dX0_soundAt_71 ?_
        exact aw_iret rfl (by decide) (by decide) dX0_soundAt_72 ⟨by first | rfl | (simp [tc_s5, wd_w_row, row_self, row_row, b1, b4, b5]; done) | (simp_all [tc_s5, wd_w_row, row_self, row_row, b1, b4, b5]; done), by first | rfl | (simp [tc_s5, wd_w_row, row_self, row_row, b1, b4, b5]; done) | (simp_all [tc_s5, wd_w_row, row_self, row_row, b1, b4, b5]; done)⟩
      · skip
        refine aw_iload_n (x := t) rfl dX0_soundAt_43 ?_
        refine aw_iload (x := 5) rfl dX0_soundAt_44 ?_
        refine aw_icmp_ge (tgt := 60) (by decide) dX0_soundAt_46 (fun b6 => ?_) (fun b6 => ?_)
        · skip
          refine aw_iload (x := 5) rfl dX0_soundAt_60 ?_
          refine aw_iconst (v := 1) (by decide) dX0_soundAt_62 ?_
          refine aw_iaddz (z := 6) (by decide) dX0_soundAt_63 ?_
          refine aw_istore_n (L2 := [some (.int 5), some (.int t), some (.int 2), some (.int 6), some (.int 1), some (.int 0), some (.int 5)]) (by decide) rfl rfl dX0_soundAt_64 ?_
          refine aw_iinc (x := 1) (v := 2) (L2 := [some (.int 5), some (.int t), some (.int 2), some (.int 6), some (.int 2), some (.int 0), some (.int 5)]) rfl (by decide) (by decide) rfl rfl dX0_soundAt_65 ?_
          refine aw_goto (tgt := 10) (by decide) dX0_soundAt_68 ?_
          refine aw_iload (x := 2) rfl dX0_soundAt_10 ?_
          refine aw_iload_n (x := 2) rfl dX0_soundAt_12 ?_
          refine aw_icmp_ge (tgt := 71) (by decide) dX0_soundAt_13 (fun _ => ?_) (fun z => absurd z (by decide))
          refine aw_iconst (v := 0) (by decide) dX0_soundAt_71 ?_
          exact aw_iret rfl (by decide) (by decide) dX0_soundAt_72 ⟨by first | rfl | (simp [tc_s5, wd_w_row, row_self, row_row, b1, b4, b5, b6]; done) | (simp_all [tc_s5, wd_w_row, row_self, row_row, b1, b4, b5, b6]; done), by first | rfl | (simp [tc_s5, wd_w_row, row_self, row_row, b1, b4, b5, b6]; done) | (simp_all [tc_s5, wd_w_row, row_self, row_row, b1, b4, b5, b6]; done)⟩
        · skip
          refine aw_iload (x := 0) rfl dX0_soundAt_49 ?_
          refine aw_if_eq (tgt := 58) (by decide) dX0_soundAt_51 (fun _ => ?_) (fun z => absurd z (by decide))
          refine aw_iconst (v := 1) (by decide) dX0_soundAt_58 ?_
          exact aw_iret rfl (by decide) (by decide) dX0_soundAt_59 ⟨by first | rfl | (simp [tc_s5, wd_w_row, row_self, row_row, b1, b4, b5, b6]; done) | (simp_all [tc_s5, wd_w_row, row_self, row_row, b1, b4, b5, b6]; done), by first | rfl | (simp [tc_s5, wd_w_row, row_self, row_row, b1, b4, b5, b6]; done) | (simp_all [tc_s5, wd_w_row, row_self, row_row, b1, b4, b5, b6]; done)⟩
    · skip
      refine aw_iload (x := 1) rfl dX0_soundAt_49 ?_
      refine aw_if_eq (tgt := 58) (by decide) dX0_soundAt_51 (fun z => absurd z (by decide)) (fun _ => ?_)
      refine aw_iconst (v := 2) (by decide) dX0_soundAt_54 ?_
      refine aw_goto (tgt := 59) (by decide) dX0_soundAt_55 ?_
      exact aw_iret rfl (by decide) (by decide) dX0_soundAt_59 ⟨by first | rfl | (simp [tc_s5, wd_w_row, row_self, row_row, b1, b4]; done) | (simp_all [tc_s5, wd_w_row, row_self, row_row, b1, b4]; done), by first | rfl | (simp [tc_s5, wd_w_row, row_self, row_row, b1, b4]; done) | (simp_all [tc_s5, wd_w_row, row_self, row_row, b1, b4]; done)⟩
theorem ct_X0_ringCount_6 {ad : Nat → Nat → Nat → Nat} {o : wd_S}  : CT ad MX0_ringCount [.int 6] o (RT (some (.int 2)) o) := by
  refine CT.of (L := [some (.int 6), none]) rfl rfl (by decide) (Nat.le_of_ble_eq_true rfl) rfl ?_
  refine aw_iconst (v := 0) (by decide) dX0_ringCount_0 ?_
  refine aw_istore_n (L2 := [some (.int 6), some (.int 0)]) (by decide) rfl rfl dX0_ringCount_1 ?_
  refine aw_iload_n (x := 0) rfl dX0_ringCount_2 ?_
  refine aw_iconst (v := 3) (by decide) dX0_ringCount_3 ?_
  refine aw_icmp_ge (tgt := 23) (by decide) dX0_ringCount_4 (fun z => absurd z (by decide)) (fun _ => ?_)
  refine aw_iload_n (x := 6) rfl dX0_ringCount_7 ?_
  refine aw_iconst (v := 1) (by decide) dX0_ringCount_8 ?_
  refine aw_iaddz (z := 7) (by decide) dX0_ringCount_9 ?_
  refine aw_iload_n (x := 0) rfl dX0_ringCount_10 ?_
  refine aw_iconst (v := 1) (by decide) dX0_ringCount_11 ?_
  refine aw_iaddz (z := 1) (by decide) dX0_ringCount_12 ?_
  refine aw_ishrz (z := 3) (by decide) dX0_ringCount_13 ?_
  refine aw_if_eq (tgt := 23) (by decide) dX0_ringCount_14 (fun z => absurd z (by decide)) (fun _ => ?_)
  refine aw_iinc (x := 0) (v := 1) (L2 := [some (.int 6), some (.int 1)]) rfl (by decide) (by decide) rfl rfl dX0_ringCount_17 ?_
  refine aw_goto (tgt := 2) (by decide) dX0_ringCount_20 ?_
  refine aw_iload_n (x := 1) rfl dX0_ringCount_2 ?_
  refine aw_iconst (v := 3) (by decide) dX0_ringCount_3 ?_
  refine aw_icmp_ge (tgt := 23) (by decide) dX0_ringCount_4 (fun z => absurd z (by decide)) (fun _ => ?_)
  refine aw_iload_n (x := 6) rfl dX0_ringCount_7 ?_
  refine aw_iconst (v := 1) (by decide) dX0_ringCount_8 ?_
  refine aw_iaddz (z := 7) (by decide) dX0_ringCount_9 ?_
  refine aw_iload_n (x := 1) rfl dX0_ringCount_10 ?_
  refine aw_iconst (v := 1) (by decide) dX0_ringCount_11 ?_
  refine aw_iaddz (z := 2) (by decide) dX0_ringCount_12 ?_
  refine aw_ishrz (z := 1) (by decide) dX0_ringCount_13 ?_
  refine aw_if_eq (tgt := 23) (by decide) dX0_ringCount_14 (fun z => absurd z (by decide)) (fun _ => ?_)
  refine aw_iinc (x := 1) (v := 2) (L2 := [some (.int 6), some (.int 2)]) rfl (by decide) (by decide) rfl rfl dX0_ringCount_17 ?_
  refine aw_goto (tgt := 2) (by decide) dX0_ringCount_20 ?_
  refine aw_iload_n (x := 2) rfl dX0_ringCount_2 ?_
  refine aw_iconst (v := 3) (by decide) dX0_ringCount_3 ?_
  refine aw_icmp_ge (tgt := 23) (by decide) dX0_ringCount_4 (fun z => absurd z (by decide)) (fun _ => ?_)
  refine aw_iload_n (x := 6) rfl dX0_ringCount_7 ?_
  refine aw_iconst (v := 1) (by decide) dX0_ringCount_8 ?_
  refine aw_iaddz (z := 7) (by decide) dX0_ringCount_9 ?_
  refine aw_iload_n (x := 2) rfl dX0_ringCount_10 ?_
  refine aw_iconst (v := 1) (by decide) dX0_ringCount_11 ?_
  refine aw_iaddz (z := 3) (by decide) dX0_ringCount_12 ?_
  refine aw_ishrz (z := 0) (by decide) dX0_ringCount_13 ?_
  refine aw_if_eq (tgt := 23) (by decide) dX0_ringCount_14 (fun _ => ?_) (fun z => absurd z (by decide))
  refine aw_iload_n (x := 2) rfl dX0_ringCount_23 ?_
  exact aw_iret rfl (by decide) (by decide) dX0_ringCount_24 ⟨by first | rfl | (simp [wd_w_row, row_self, row_row]; done) | (simp_all [wd_w_row, row_self, row_row]; done), by first | rfl | (simp [wd_w_row, row_self, row_row]; done) | (simp_all [wd_w_row, row_self, row_row]; done)⟩
theorem ct_X0_isLong_6_0 {ad : Nat → Nat → Nat → Nat} {o : wd_S}  : CT ad MX0_isLong [.int 6, .int 0] o (RT (some (.int 1)) o) := by
  refine CT.of (L := [some (.int 6), some (.int 0), none]) rfl rfl (by decide) (Nat.le_of_ble_eq_true rfl) rfl ?_
  refine aw_iload_n (x := 6) rfl dX0_isLong_0 ?_
  refine aw_rS (v := some (.int 2)) (o2 := o) ct_X0_ringCount_6 (mm_fit_of cbX0_ringCount (by decide) (by decide)) wq303 wq304 rfl rfl (Nat.le_of_ble_eq_true rfl) (by decide) (by decide) rfl dX0_isLong_1 ?_
  refine aw_iconst (v := 1) (by decide) dX0_isLong_4 ?_
  refine aw_isubz (z := 1) (by decide) dX0_isLong_5 ?_
  refine aw_iload_n (x := 0) rfl dX0_isLong_6 ?_
  refine aw_isubz (z := 1) (by decide) dX0_isLong_7 ?_
  refine aw_istore_n (L2 := [some (.int 6), some (.int 0), some (.int 1)]) (by decide) rfl rfl dX0_isLong_8 ?_
  refine aw_iload_n (x := 6) rfl dX0_isLong_9 ?_
  refine aw_iconst (v := 1) (by decide) dX0_isLong_10 ?_
  refine aw_iaddz (z := 7) (by decide) dX0_isLong_11 ?_
  refine aw_iload_n (x := 1) rfl dX0_isLong_12 ?_
  refine aw_ishrz (z := 3) (by decide) dX0_isLong_13 ?_
  refine aw_iconst (v := 1) (by decide) dX0_isLong_14 ?_
  refine aw_iandz (z := 1) (by decide) dX0_isLong_15 ?_
  refine aw_iconst (v := 1) (by decide) dX0_isLong_16 ?_
  refine aw_icmp_ne (tgt := 24) (by decide) dX0_isLong_17 (fun z => absurd z (by decide)) (fun _ => ?_)
  refine aw_iconst (v := 1) (by decide) dX0_isLong_20 ?_
  refine aw_goto (tgt := 25) (by decide) dX0_isLong_21 ?_
  exact aw_zret rfl (by decide) (by decide) (by decide) dX0_isLong_25 ⟨by first | rfl | (simp [wd_w_row, row_self, row_row]; done) | (simp_all [wd_w_row, row_self, row_row]; done), by first | rfl | (simp [wd_w_row, row_self, row_row]; done) | (simp_all [wd_w_row, row_self, row_row]; done)⟩
theorem ct_X0_isLong_6_1 {ad : Nat → Nat → Nat → Nat} {o : wd_S}  : CT ad MX0_isLong [.int 6, .int 1] o (RT (some (.int 1)) o) := by
  refine CT.of (L := [some (.int 6), some (.int 1), none]) rfl rfl (by decide) (Nat.le_of_ble_eq_true rfl) rfl ?_
  refine aw_iload_n (x := 6) rfl dX0_isLong_0 ?_
  refine aw_rS (v := some (.int 2)) (o2 := o) ct_X0_ringCount_6 (mm_fit_of cbX0_ringCount (by decide) (by decide)) wq303 wq304 rfl rfl (Nat.le_of_ble_eq_true rfl) (by decide) (by decide) rfl dX0_isLong_1 ?_
  refine aw_iconst (v := 1) (by decide) dX0_isLong_4 ?_
  refine aw_isubz (z := 1) (by decide) dX0_isLong_5 ?_
  refine aw_iload_n (x := 1) rfl dX0_isLong_6 ?_
  refine aw_isubz (z := 0) (by decide) dX0_isLong_7 ?_
  refine aw_istore_n (L2 := [some (.int 6), some (.int 1), some (.int 0)]) (by decide) rfl rfl dX0_isLong_8 ?_
  refine aw_iload_n (x := 6) rfl dX0_isLong_9 ?_
  refine aw_iconst (v := 1) (by decide) dX0_isLong_10 ?_
  refine aw_iaddz (z := 7) (by decide) dX0_isLong_11 ?_
  refine aw_iload_n (x := 0) rfl dX0_isLong_12 ?_
  refine aw_ishrz (z := 7) (by decide) dX0_isLong_13 ?_
  refine aw_iconst (v := 1) (by decide) dX0_isLong_14 ?_
  refine aw_iandz (z := 1) (by decide) dX0_isLong_15 ?_
  refine aw_iconst (v := 1) (by decide) dX0_isLong_16 ?_
  refine aw_icmp_ne (tgt := 24) (by decide) dX0_isLong_17 (fun z => absurd z (by decide)) (fun _ => ?_)
  refine aw_iconst (v := 1) (by decide) dX0_isLong_20 ?_
  refine aw_goto (tgt := 25) (by decide) dX0_isLong_21 ?_
  exact aw_zret rfl (by decide) (by decide) (by decide) dX0_isLong_25 ⟨by first | rfl | (simp [wd_w_row, row_self, row_row]; done) | (simp_all [wd_w_row, row_self, row_row]; done), by first | rfl | (simp [wd_w_row, row_self, row_row]; done) | (simp_all [wd_w_row, row_self, row_row]; done)⟩
theorem ct_X0_lengthOf_6 {ad : Nat → Nat → Nat → Nat} {o : wd_S}  : CT ad MX0_lengthOf [.int 6] o (RT (some (.int 11)) o) := by
  refine CT.of (L := [some (.int 6), none, none, none]) rfl rfl (by decide) (Nat.le_of_ble_eq_true rfl) rfl ?_
  refine aw_iload_n (x := 6) rfl dX0_lengthOf_0 ?_
  refine aw_rS (v := some (.int 2)) (o2 := o) ct_X0_ringCount_6 (mm_fit_of cbX0_ringCount (by decide) (by decide)) wq303 wq304 rfl rfl (Nat.le_of_ble_eq_true rfl) (by decide) (by decide) rfl dX0_lengthOf_1 ?_
  refine aw_istore_n (L2 := [some (.int 6), some (.int 2), none, none]) (by decide) rfl rfl dX0_lengthOf_4 ?_
  refine aw_iload_n (x := 2) rfl dX0_lengthOf_5 ?_
  refine aw_iconst (v := 1) (by decide) dX0_lengthOf_6 ?_
  refine aw_isubz (z := 1) (by decide) dX0_lengthOf_7 ?_
  refine aw_iconst (v := 1) (by decide) dX0_lengthOf_8 ?_
  refine aw_imulz (z := 1) (by decide) dX0_lengthOf_9 ?_
  refine aw_iconst (v := 4) (by decide) dX0_lengthOf_10 ?_
  refine aw_iaddz (z := 5) (by decide) dX0_lengthOf_11 ?_
  refine aw_istore_n (L2 := [some (.int 6), some (.int 2), some (.int 5), none]) (by decide) rfl rfl dX0_lengthOf_12 ?_
  refine aw_iconst (v := 0) (by decide) dX0_lengthOf_13 ?_
  refine aw_istore_n (L2 := [some (.int 6), some (.int 2), some (.int 5), some (.int 0)]) (by decide) rfl rfl dX0_lengthOf_14 ?_
  refine aw_iload_n (x := 0) rfl dX0_lengthOf_15 ?_
  refine aw_iload_n (x := 2) rfl dX0_lengthOf_16 ?_
  refine aw_icmp_ge (tgt := 45) (by decide) dX0_lengthOf_17 (fun z => absurd z (by decide)) (fun _ => ?_)
  refine aw_iload_n (x := 5) rfl dX0_lengthOf_20 ?_
  refine aw_iload_n (x := 6) rfl dX0_lengthOf_21 ?_
  refine aw_iconst (v := 1) (by decide) dX0_lengthOf_22 ?_
  refine aw_iaddz (z := 7) (by decide) dX0_lengthOf_23 ?_
  refine aw_iload_n (x := 0) rfl dX0_lengthOf_24 ?_
  refine aw_ishrz (z := 7) (by decide) dX0_lengthOf_25 ?_
  refine aw_iconst (v := 1) (by decide) dX0_lengthOf_26 ?_
  refine aw_iandz (z := 1) (by decide) dX0_lengthOf_27 ?_
  refine aw_iconst (v := 1) (by decide) dX0_lengthOf_28 ?_
  refine aw_icmp_ne (tgt := 36) (by decide) dX0_lengthOf_29 (fun z => absurd z (by decide)) (fun _ => ?_)
  refine aw_iconst (v := 3) (by decide) dX0_lengthOf_32 ?_
  refine aw_goto (tgt := 37) (by decide) dX0_lengthOf_33 ?_
  refine aw_iaddz (z := 8) (by decide) dX0_lengthOf_37 ?_
  refine aw_istore_n (L2 := [some (.int 6), some (.int 2), some (.int 8), some (.int 0)]) (by decide) rfl rfl dX0_lengthOf_38 ?_
  refine aw_iinc (x := 0) (v := 1) (L2 := [some (.int 6), some (.int 2), some (.int 8), some (.int 1)]) rfl (by decide) (by decide) rfl rfl dX0_lengthOf_39 ?_
  refine aw_goto (tgt := 15) (by decide) dX0_lengthOf_42 ?_
  refine aw_iload_n (x := 1) rfl dX0_lengthOf_15 ?_
  refine aw_iload_n (x := 2) rfl dX0_lengthOf_16 ?_
  refine aw_icmp_ge (tgt := 45) (by decide) dX0_lengthOf_17 (fun z => absurd z (by decide)) (fun _ => ?_)
  refine aw_iload_n (x := 8) rfl dX0_lengthOf_20 ?_
  refine aw_iload_n (x := 6) rfl dX0_lengthOf_21 ?_
  refine aw_iconst (v := 1) (by decide) dX0_lengthOf_22 ?_
  refine aw_iaddz (z := 7) (by decide) dX0_lengthOf_23 ?_
  refine aw_iload_n (x := 1) rfl dX0_lengthOf_24 ?_
  refine aw_ishrz (z := 3) (by decide) dX0_lengthOf_25 ?_
  refine aw_iconst (v := 1) (by decide) dX0_lengthOf_26 ?_
  refine aw_iandz (z := 1) (by decide) dX0_lengthOf_27 ?_
  refine aw_iconst (v := 1) (by decide) dX0_lengthOf_28 ?_
  refine aw_icmp_ne (tgt := 36) (by decide) dX0_lengthOf_29 (fun z => absurd z (by decide)) (fun _ => ?_)
  refine aw_iconst (v := 3) (by decide) dX0_lengthOf_32 ?_
  refine aw_goto (tgt := 37) (by decide) dX0_lengthOf_33 ?_
  refine aw_iaddz (z := 11) (by decide) dX0_lengthOf_37 ?_
  refine aw_istore_n (L2 := [some (.int 6), some (.int 2), some (.int 11), some (.int 1)]) (by decide) rfl rfl dX0_lengthOf_38 ?_
  refine aw_iinc (x := 1) (v := 2) (L2 := [some (.int 6), some (.int 2), some (.int 11), some (.int 2)]) rfl (by decide) (by decide) rfl rfl dX0_lengthOf_39 ?_
  refine aw_goto (tgt := 15) (by decide) dX0_lengthOf_42 ?_
  refine aw_iload_n (x := 2) rfl dX0_lengthOf_15 ?_
  refine aw_iload_n (x := 2) rfl dX0_lengthOf_16 ?_
  refine aw_icmp_ge (tgt := 45) (by decide) dX0_lengthOf_17 (fun _ => ?_) (fun z => absurd z (by decide))
  refine aw_iload_n (x := 11) rfl dX0_lengthOf_45 ?_
  exact aw_iret rfl (by decide) (by decide) dX0_lengthOf_46 ⟨by first | rfl | (simp [wd_w_row, row_self, row_row]; done) | (simp_all [wd_w_row, row_self, row_row]; done), by first | rfl | (simp [wd_w_row, row_self, row_row]; done) | (simp_all [wd_w_row, row_self, row_row]; done)⟩
theorem ct_X0_soundAt_6 {ad : Nat → Nat → Nat → Nat} {o : wd_S} {t : Int32} : CT ad MX0_soundAt [.int 6, .int t] o (RT (some (.int (tc_s6 t))) o) := by
  refine CT.of (L := [some (.int 6), some (.int t), none, none, none, none, none]) rfl rfl (by decide) (Nat.le_of_ble_eq_true rfl) rfl ?_
  refine aw_iload_n (x := 6) rfl dX0_soundAt_0 ?_
  refine aw_rS (v := some (.int 2)) (o2 := o) ct_X0_ringCount_6 (mm_fit_of cbX0_ringCount (by decide) (by decide)) wq303 wq304 rfl rfl (Nat.le_of_ble_eq_true rfl) (by decide) (by decide) rfl dX0_soundAt_1 ?_
  refine aw_istore_n (L2 := [some (.int 6), some (.int t), some (.int 2), none, none, none, none]) (by decide) rfl rfl dX0_soundAt_4 ?_
  refine aw_iconst (v := 0) (by decide) dX0_soundAt_5 ?_
  refine aw_istore_n (L2 := [some (.int 6), some (.int t), some (.int 2), some (.int 0), none, none, none]) (by decide) rfl rfl dX0_soundAt_6 ?_
  refine aw_iconst (v := 0) (by decide) dX0_soundAt_7 ?_
  refine aw_istore (L2 := [some (.int 6), some (.int t), some (.int 2), some (.int 0), some (.int 0), none, none]) (by decide) rfl rfl dX0_soundAt_8 ?_
  refine aw_iload (x := 0) rfl dX0_soundAt_10 ?_
  refine aw_iload_n (x := 2) rfl dX0_soundAt_12 ?_
  refine aw_icmp_ge (tgt := 71) (by decide) dX0_soundAt_13 (fun z => absurd z (by decide)) (fun _ => ?_)
  refine aw_iload_n (x := 6) rfl dX0_soundAt_16 ?_
  refine aw_iload (x := 0) rfl dX0_soundAt_17 ?_
  refine aw_rS (v := some (.int 1)) (o2 := o) ct_X0_isLong_6_0 (mm_fit_of cbX0_isLong (by decide) (by decide)) wq309 wq310 rfl rfl (Nat.le_of_ble_eq_true rfl) (by decide) (by decide) rfl dX0_soundAt_19 ?_
  refine aw_istore (L2 := [some (.int 6), some (.int t), some (.int 2), some (.int 0), some (.int 0), some (.int 1), none]) (by decide) rfl rfl dX0_soundAt_22 ?_
  refine aw_iload_n (x := 0) rfl dX0_soundAt_24 ?_
  refine aw_iload (x := 1) rfl dX0_soundAt_25 ?_
  refine aw_if_eq (tgt := 34) (by decide) dX0_soundAt_27 (fun z => absurd z (by decide)) (fun _ => ?_)
  refine aw_iconst (v := 3) (by decide) dX0_soundAt_30 ?_
  refine aw_goto (tgt := 35) (by decide) dX0_soundAt_31 ?_
  refine aw_iaddz (z := 3) (by decide) dX0_soundAt_35 ?_
  refine aw_istore (L2 := [some (.int 6), some (.int t), some (.int 2), some (.int 0), some (.int 0), some (.int 1), some (.int 3)]) (by decide) rfl rfl dX0_soundAt_36 ?_
  refine aw_iload_n (x := t) rfl dX0_soundAt_38 ?_
  refine aw_iload_n (x := 0) rfl dX0_soundAt_39 ?_
  refine aw_icmp_lt (tgt := 60) (by decide) dX0_soundAt_40 (fun b1 => ?_) (fun b1 => ?_)
  · skip
    refine aw_iload (x := 3) rfl dX0_soundAt_60 ?_
    refine aw_iconst (v := 1) (by decide) dX0_soundAt_62 ?_
    refine aw_iaddz (z := 4) (by decide) dX0_soundAt_63 ?_
    refine aw_istore_n (L2 := [some (.int 6), some (.int t), some (.int 2), some (.int 4), some (.int 0), some (.int 1), some (.int 3)]) (by decide) rfl rfl dX0_soundAt_64 ?_
    refine aw_iinc (x := 0) (v := 1) (L2 := [some (.int 6), some (.int t), some (.int 2), some (.int 4), some (.int 1), some (.int 1), some (.int 3)]) rfl (by decide) (by decide) rfl rfl dX0_soundAt_65 ?_
    refine aw_goto (tgt := 10) (by decide) dX0_soundAt_68 ?_
    refine aw_iload (x := 1) rfl dX0_soundAt_10 ?_
    refine aw_iload_n (x := 2) rfl dX0_soundAt_12 ?_
    refine aw_icmp_ge (tgt := 71) (by decide) dX0_soundAt_13 (fun z => absurd z (by decide)) (fun _ => ?_)
    refine aw_iload_n (x := 6) rfl dX0_soundAt_16 ?_
    refine aw_iload (x := 1) rfl dX0_soundAt_17 ?_
    refine aw_rS (v := some (.int 1)) (o2 := o) ct_X0_isLong_6_1 (mm_fit_of cbX0_isLong (by decide) (by decide)) wq309 wq310 rfl rfl (Nat.le_of_ble_eq_true rfl) (by decide) (by decide) rfl dX0_soundAt_19 ?_
    refine aw_istore (L2 := [some (.int 6), some (.int t), some (.int 2), some (.int 4), some (.int 1), some (.int 1), some (.int 3)]) (by decide) rfl rfl dX0_soundAt_22 ?_
    refine aw_iload_n (x := 4) rfl dX0_soundAt_24 ?_
    refine aw_iload (x := 1) rfl dX0_soundAt_25 ?_
    refine aw_if_eq (tgt := 34) (by decide) dX0_soundAt_27 (fun z => absurd z (by decide)) (fun _ => ?_)
    refine aw_iconst (v := 3) (by decide) dX0_soundAt_30 ?_
    refine aw_goto (tgt := 35) (by decide) dX0_soundAt_31 ?_
    refine aw_iaddz (z := 7) (by decide) dX0_soundAt_35 ?_
    refine aw_istore (L2 := [some (.int 6), some (.int t), some (.int 2), some (.int 4), some (.int 1), some (.int 1), some (.int 7)]) (by decide) rfl rfl dX0_soundAt_36 ?_
    refine aw_iload_n (x := t) rfl dX0_soundAt_38 ?_
    refine aw_iload_n (x := 4) rfl dX0_soundAt_39 ?_
    refine aw_icmp_lt (tgt := 60) (by decide) dX0_soundAt_40 (fun b2 => ?_) (fun b2 => ?_)
    · skip
      refine aw_iload (x := 7) rfl dX0_soundAt_60 ?_
      refine aw_iconst (v := 1) (by decide) dX0_soundAt_62 ?_
      refine aw_iaddz (z := 8) (by decide) dX0_soundAt_63 ?_
      refine aw_istore_n (L2 := [some (.int 6), some (.int t), some (.int 2), some (.int 8), some (.int 1), some (.int 1), some (.int 7)]) (by decide) rfl rfl dX0_soundAt_64 ?_
      refine aw_iinc (x := 1) (v := 2) (L2 := [some (.int 6), some (.int t), some (.int 2), some (.int 8), some (.int 2), some (.int 1), some (.int 7)]) rfl (by decide) (by decide) rfl rfl dX0_soundAt_65 ?_
      refine aw_goto (tgt := 10) (by decide) dX0_soundAt_68 ?_
      refine aw_iload (x := 2) rfl dX0_soundAt_10 ?_
      refine aw_iload_n (x := 2) rfl dX0_soundAt_12 ?_
      refine aw_icmp_ge (tgt := 71) (by decide) dX0_soundAt_13 (fun _ => ?_) (fun z => absurd z (by decide))
      refine aw_iconst (v := 0) (by decide) dX0_soundAt_71 ?_
      exact aw_iret rfl (by decide) (by decide) dX0_soundAt_72 ⟨by first | rfl | (simp [tc_s6, wd_w_row, row_self, row_row, b1, b2]; done) | (simp_all [tc_s6, wd_w_row, row_self, row_row, b1, b2]; done), by first | rfl | (simp [tc_s6, wd_w_row, row_self, row_row, b1, b2]; done) | (simp_all [tc_s6, wd_w_row, row_self, row_row, b1, b2]; done)⟩
    · skip
      refine aw_iload_n (x := t) rfl dX0_soundAt_43 ?_
      refine aw_iload (x := 7) rfl dX0_soundAt_44 ?_
      refine aw_icmp_ge (tgt := 60) (by decide) dX0_soundAt_46 (fun b3 => ?_) (fun b3 => ?_)
      · skip
        refine aw_iload (x := 7) rfl dX0_soundAt_60 ?_
        refine aw_iconst (v := 1) (by decide) dX0_soundAt_62 ?_
        refine aw_iaddz (z := 8) (by decide) dX0_soundAt_63 ?_
        refine aw_istore_n (L2 := [some (.int 6), some (.int t), some (.int 2), some (.int 8), some (.int 1), some (.int 1), some (.int 7)]) (by decide) rfl rfl dX0_soundAt_64 ?_
        refine aw_iinc (x := 1) (v := 2) (L2 := [some (.int 6), some (.int t), some (.int 2), some (.int 8), some (.int 2), some (.int 1), some (.int 7)]) rfl (by decide) (by decide) rfl rfl dX0_soundAt_65 ?_
        refine aw_goto (tgt := 10) (by decide) dX0_soundAt_68 ?_
        refine aw_iload (x := 2) rfl dX0_soundAt_10 ?_
        refine aw_iload_n (x := 2) rfl dX0_soundAt_12 ?_
        refine aw_icmp_ge (tgt := 71) (by decide) dX0_soundAt_13 (fun _ => ?_) (fun z => absurd z (by decide))
        refine aw_iconst (v := 0) (by decide) dX0_soundAt_71 ?_
        exact aw_iret rfl (by decide) (by decide) dX0_soundAt_72 ⟨by first | rfl | (simp [tc_s6, wd_w_row, row_self, row_row, b1, b2, b3]; done) | (simp_all [tc_s6, wd_w_row, row_self, row_row, b1, b2, b3]; done), by first | rfl | (simp [tc_s6, wd_w_row, row_self, row_row, b1, b2, b3]; done) | (simp_all [tc_s6, wd_w_row, row_self, row_row, b1, b2, b3]; done)⟩
      · skip
        refine aw_iload (x := 1) rfl dX0_soundAt_49 ?_
        refine aw_if_eq (tgt := 58) (by decide) dX0_soundAt_51 (fun z => absurd z (by decide)) (fun _ => ?_)
        refine aw_iconst (v := 2) (by decide) dX0_soundAt_54 ?_
        refine aw_goto (tgt := 59) (by decide) dX0_soundAt_55 ?_
        exact aw_iret rfl (by decide) (by decide) dX0_soundAt_59 ⟨by first | rfl | (simp [tc_s6, wd_w_row, row_self, row_row, b1, b2, b3]; done) | (simp_all [tc_s6, wd_w_row, row_self, row_row, b1, b2, b3]; done), by first | rfl | (simp [tc_s6, wd_w_row, row_self, row_row, b1, b2, b3]; done) | (simp_all [tc_s6, wd_w_row, row_self, row_row, b1, b2, b3]; done)⟩
  · skip
    refine aw_iload_n (x := t) rfl dX0_soundAt_43 ?_
    refine aw_iload (x := 3) rfl dX0_soundAt_44 ?_
    refine aw_icmp_ge (tgt := 60) (by decide) dX0_soundAt_46 (fun b4 => ?_) (fun b4 => ?_)
    · skip
      refine aw_iload (x := 3) rfl dX0_soundAt_60 ?_
      refine aw_iconst (v := 1) (by decide) dX0_soundAt_62 ?_
      refine aw_iaddz (z := 4) (by decide) dX0_soundAt_63 ?_
      refine aw_istore_n (L2 := [some (.int 6), some (.int t), some (.int 2), some (.int 4), some (.int 0), some (.int 1), some (.int 3)]) (by decide) rfl rfl dX0_soundAt_64 ?_
      refine aw_iinc (x := 0) (v := 1) (L2 := [some (.int 6), some (.int t), some (.int 2), some (.int 4), some (.int 1), some (.int 1), some (.int 3)]) rfl (by decide) (by decide) rfl rfl dX0_soundAt_65 ?_
      refine aw_goto (tgt := 10) (by decide) dX0_soundAt_68 ?_
      refine aw_iload (x := 1) rfl dX0_soundAt_10 ?_
      refine aw_iload_n (x := 2) rfl dX0_soundAt_12 ?_
      refine aw_icmp_ge (tgt := 71) (by decide) dX0_soundAt_13 (fun z => absurd z (by decide)) (fun _ => ?_)
      refine aw_iload_n (x := 6) rfl dX0_soundAt_16 ?_
      refine aw_iload (x := 1) rfl dX0_soundAt_17 ?_
      refine aw_rS (v := some (.int 1)) (o2 := o) ct_X0_isLong_6_1 (mm_fit_of cbX0_isLong (by decide) (by decide)) wq309 wq310 rfl rfl (Nat.le_of_ble_eq_true rfl) (by decide) (by decide) rfl dX0_soundAt_19 ?_
      refine aw_istore (L2 := [some (.int 6), some (.int t), some (.int 2), some (.int 4), some (.int 1), some (.int 1), some (.int 3)]) (by decide) rfl rfl dX0_soundAt_22 ?_
      refine aw_iload_n (x := 4) rfl dX0_soundAt_24 ?_
      refine aw_iload (x := 1) rfl dX0_soundAt_25 ?_
      refine aw_if_eq (tgt := 34) (by decide) dX0_soundAt_27 (fun z => absurd z (by decide)) (fun _ => ?_)
      refine aw_iconst (v := 3) (by decide) dX0_soundAt_30 ?_
      refine aw_goto (tgt := 35) (by decide) dX0_soundAt_31 ?_
      refine aw_iaddz (z := 7) (by decide) dX0_soundAt_35 ?_
      refine aw_istore (L2 := [some (.int 6), some (.int t), some (.int 2), some (.int 4), some (.int 1), some (.int 1), some (.int 7)]) (by decide) rfl rfl dX0_soundAt_36 ?_
      refine aw_iload_n (x := t) rfl dX0_soundAt_38 ?_
      refine aw_iload_n (x := 4) rfl dX0_soundAt_39 ?_
      refine aw_icmp_lt (tgt := 60) (by decide) dX0_soundAt_40 (fun b5 => ?_) (fun b5 => ?_)
      · skip
        refine aw_iload (x := 7) rfl dX0_soundAt_60 ?_
        refine aw_iconst (v := 1) (by decide) dX0_soundAt_62 ?_
        refine aw_iaddz (z := 8) (by decide) dX0_soundAt_63 ?_
        refine aw_istore_n (L2 := [some (.int 6), some (.int t), some (.int 2), some (.int 8), some (.int 1), some (.int 1), some (.int 7)]) (by decide) rfl rfl dX0_soundAt_64 ?_
        refine aw_iinc (x := 1) (v := 2) (L2 := [some (.int 6), some (.int t), some (.int 2), some (.int 8), some (.int 2), some (.int 1), some (.int 7)]) rfl (by decide) (by decide) rfl rfl dX0_soundAt_65 ?_
        refine aw_goto (tgt := 10) (by decide) dX0_soundAt_68 ?_
        refine aw_iload (x := 2) rfl dX0_soundAt_10 ?_
        refine aw_iload_n (x := 2) rfl dX0_soundAt_12 ?_
        refine aw_icmp_ge (tgt := 71) (by decide) dX0_soundAt_13 (fun _ => ?_) (fun z => absurd z (by decide))
        refine aw_iconst (v := 0) (by decide) dX0_soundAt_71 ?_
        exact aw_iret rfl (by decide) (by decide) dX0_soundAt_72 ⟨by first | rfl | (simp [tc_s6, wd_w_row, row_self, row_row, b1, b4, b5]; done) | (simp_all [tc_s6, wd_w_row, row_self, row_row, b1, b4, b5]; done), by first | rfl | (simp [tc_s6, wd_w_row, row_self, row_row, b1, b4, b5]; done) | (simp_all [tc_s6, wd_w_row, row_self, row_row, b1, b4, b5]; done)⟩
      · skip
        refine aw_iload_n (x := t) rfl dX0_soundAt_43 ?_
        refine aw_iload (x := 7) rfl dX0_soundAt_44 ?_
        refine aw_icmp_ge (tgt := 60) (by decide) dX0_soundAt_46 (fun b6 => ?_) (fun b6 => ?_)
        · skip
          refine aw_iload (x := 7) rfl dX0_soundAt_60 ?_
          refine aw_iconst (v := 1) (by decide) dX0_soundAt_62 ?_
          refine aw_iaddz (z := 8) (by decide) dX0_soundAt_63 ?_
          refine aw_istore_n (L2 := [some (.int 6), some (.int t), some (.int 2), some (.int 8), some (.int 1), some (.int 1), some (.int 7)]) (by decide) rfl rfl dX0_soundAt_64 ?_
          refine aw_iinc (x := 1) (v := 2) (L2 := [some (.int 6), some (.int t), some (.int 2), some (.int 8), some (.int 2), some (.int 1), some (.int 7)]) rfl (by decide) (by decide) rfl rfl dX0_soundAt_65 ?_
          refine aw_goto (tgt := 10) (by decide) dX0_soundAt_68 ?_
          refine aw_iload (x := 2) rfl dX0_soundAt_10 ?_
          refine aw_iload_n (x := 2) rfl dX0_soundAt_12 ?_
          refine aw_icmp_ge (tgt := 71) (by decide) dX0_soundAt_13 (fun _ => ?_) (fun z => absurd z (by decide))
          refine aw_iconst (v := 0) (by decide) dX0_soundAt_71 ?_
          exact aw_iret rfl (by decide) (by decide) dX0_soundAt_72 ⟨by first | rfl | (simp [tc_s6, wd_w_row, row_self, row_row, b1, b4, b5, b6]; done) | (simp_all [tc_s6, wd_w_row, row_self, row_row, b1, b4, b5, b6]; done), by first | rfl | (simp [tc_s6, wd_w_row, row_self, row_row, b1, b4, b5, b6]; done) | (simp_all [tc_s6, wd_w_row, row_self, row_row, b1, b4, b5, b6]; done)⟩
        · skip
          refine aw_iload (x := 1) rfl dX0_soundAt_49 ?_
          refine aw_if_eq (tgt := 58) (by decide) dX0_soundAt_51 (fun z => absurd z (by decide)) (fun _ => ?_)
          refine aw_iconst (v := 2) (by decide) dX0_soundAt_54 ?_
          refine aw_goto (tgt := 59) (by decide) dX0_soundAt_55 ?_
          exact aw_iret rfl (by decide) (by decide) dX0_soundAt_59 ⟨by first | rfl | (simp [tc_s6, wd_w_row, row_self, row_row, b1, b4, b5, b6]; done) | (simp_all [tc_s6, wd_w_row, row_self, row_row, b1, b4, b5, b6]; done), by first | rfl | (simp [tc_s6, wd_w_row, row_self, row_row, b1, b4, b5, b6]; done) | (simp_all [tc_s6, wd_w_row, row_self, row_row, b1, b4, b5, b6]; done)⟩
    · skip
      refine aw_iload (x := 1) rfl dX0_soundAt_49 ?_
      refine aw_if_eq (tgt := 58) (by decide) dX0_soundAt_51 (fun z => absurd z (by decide)) (fun _ => ?_)
      refine aw_iconst (v := 2) (by decide) dX0_soundAt_54 ?_
      refine aw_goto (tgt := 59) (by decide) dX0_soundAt_55 ?_
      exact aw_iret rfl (by decide) (by decide) dX0_soundAt_59 ⟨by first | rfl | (simp [tc_s6, wd_w_row, row_self, row_row, b1, b4]; done) | (simp_all [tc_s6, wd_w_row, row_self, row_row, b1, b4]; done), by first | rfl | (simp [tc_s6, wd_w_row, row_self, row_row, b1, b4]; done) | (simp_all [tc_s6, wd_w_row, row_self, row_row, b1, b4]; done)⟩
theorem ct_X0_ringCount_7 {ad : Nat → Nat → Nat → Nat} {o : wd_S}  : CT ad MX0_ringCount [.int 7] o (RT (some (.int 3)) o) := by
  refine CT.of (L := [some (.int 7), none]) rfl rfl (by decide) (Nat.le_of_ble_eq_true rfl) rfl ?_
  refine aw_iconst (v := 0) (by decide) dX0_ringCount_0 ?_
  refine aw_istore_n (L2 := [some (.int 7), some (.int 0)]) (by decide) rfl rfl dX0_ringCount_1 ?_
  refine aw_iload_n (x := 0) rfl dX0_ringCount_2 ?_
  refine aw_iconst (v := 3) (by decide) dX0_ringCount_3 ?_
  refine aw_icmp_ge (tgt := 23) (by decide) dX0_ringCount_4 (fun z => absurd z (by decide)) (fun _ => ?_)
  refine aw_iload_n (x := 7) rfl dX0_ringCount_7 ?_
  refine aw_iconst (v := 1) (by decide) dX0_ringCount_8 ?_
  refine aw_iaddz (z := 8) (by decide) dX0_ringCount_9 ?_
  refine aw_iload_n (x := 0) rfl dX0_ringCount_10 ?_
  refine aw_iconst (v := 1) (by decide) dX0_ringCount_11 ?_
  refine aw_iaddz (z := 1) (by decide) dX0_ringCount_12 ?_
  refine aw_ishrz (z := 4) (by decide) dX0_ringCount_13 ?_
  refine aw_if_eq (tgt := 23) (by decide) dX0_ringCount_14 (fun z => absurd z (by decide)) (fun _ => ?_)
  refine aw_iinc (x := 0) (v := 1) (L2 := [some (.int 7), some (.int 1)]) rfl (by decide) (by decide) rfl rfl dX0_ringCount_17 ?_
  refine aw_goto (tgt := 2) (by decide) dX0_ringCount_20 ?_
  refine aw_iload_n (x := 1) rfl dX0_ringCount_2 ?_
  refine aw_iconst (v := 3) (by decide) dX0_ringCount_3 ?_
  refine aw_icmp_ge (tgt := 23) (by decide) dX0_ringCount_4 (fun z => absurd z (by decide)) (fun _ => ?_)
  refine aw_iload_n (x := 7) rfl dX0_ringCount_7 ?_
  refine aw_iconst (v := 1) (by decide) dX0_ringCount_8 ?_
  refine aw_iaddz (z := 8) (by decide) dX0_ringCount_9 ?_
  refine aw_iload_n (x := 1) rfl dX0_ringCount_10 ?_
  refine aw_iconst (v := 1) (by decide) dX0_ringCount_11 ?_
  refine aw_iaddz (z := 2) (by decide) dX0_ringCount_12 ?_
  refine aw_ishrz (z := 2) (by decide) dX0_ringCount_13 ?_
  refine aw_if_eq (tgt := 23) (by decide) dX0_ringCount_14 (fun z => absurd z (by decide)) (fun _ => ?_)
  refine aw_iinc (x := 1) (v := 2) (L2 := [some (.int 7), some (.int 2)]) rfl (by decide) (by decide) rfl rfl dX0_ringCount_17 ?_
  refine aw_goto (tgt := 2) (by decide) dX0_ringCount_20 ?_
  refine aw_iload_n (x := 2) rfl dX0_ringCount_2 ?_
  refine aw_iconst (v := 3) (by decide) dX0_ringCount_3 ?_
  refine aw_icmp_ge (tgt := 23) (by decide) dX0_ringCount_4 (fun z => absurd z (by decide)) (fun _ => ?_)
  refine aw_iload_n (x := 7) rfl dX0_ringCount_7 ?_
  refine aw_iconst (v := 1) (by decide) dX0_ringCount_8 ?_
  refine aw_iaddz (z := 8) (by decide) dX0_ringCount_9 ?_
  refine aw_iload_n (x := 2) rfl dX0_ringCount_10 ?_
  refine aw_iconst (v := 1) (by decide) dX0_ringCount_11 ?_
  refine aw_iaddz (z := 3) (by decide) dX0_ringCount_12 ?_
  refine aw_ishrz (z := 1) (by decide) dX0_ringCount_13 ?_
  refine aw_if_eq (tgt := 23) (by decide) dX0_ringCount_14 (fun z => absurd z (by decide)) (fun _ => ?_)
  refine aw_iinc (x := 2) (v := 3) (L2 := [some (.int 7), some (.int 3)]) rfl (by decide) (by decide) rfl rfl dX0_ringCount_17 ?_
  refine aw_goto (tgt := 2) (by decide) dX0_ringCount_20 ?_
  refine aw_iload_n (x := 3) rfl dX0_ringCount_2 ?_
  refine aw_iconst (v := 3) (by decide) dX0_ringCount_3 ?_
  refine aw_icmp_ge (tgt := 23) (by decide) dX0_ringCount_4 (fun _ => ?_) (fun z => absurd z (by decide))
  refine aw_iload_n (x := 3) rfl dX0_ringCount_23 ?_
  exact aw_iret rfl (by decide) (by decide) dX0_ringCount_24 ⟨by first | rfl | (simp [wd_w_row, row_self, row_row]; done) | (simp_all [wd_w_row, row_self, row_row]; done), by first | rfl | (simp [wd_w_row, row_self, row_row]; done) | (simp_all [wd_w_row, row_self, row_row]; done)⟩
theorem ct_X0_isLong_7_0 {ad : Nat → Nat → Nat → Nat} {o : wd_S}  : CT ad MX0_isLong [.int 7, .int 0] o (RT (some (.int 0)) o) := by
  refine CT.of (L := [some (.int 7), some (.int 0), none]) rfl rfl (by decide) (Nat.le_of_ble_eq_true rfl) rfl ?_
  refine aw_iload_n (x := 7) rfl dX0_isLong_0 ?_
  refine aw_rS (v := some (.int 3)) (o2 := o) ct_X0_ringCount_7 (mm_fit_of cbX0_ringCount (by decide) (by decide)) wq303 wq304 rfl rfl (Nat.le_of_ble_eq_true rfl) (by decide) (by decide) rfl dX0_isLong_1 ?_
  refine aw_iconst (v := 1) (by decide) dX0_isLong_4 ?_
  refine aw_isubz (z := 2) (by decide) dX0_isLong_5 ?_
  refine aw_iload_n (x := 0) rfl dX0_isLong_6 ?_
  refine aw_isubz (z := 2) (by decide) dX0_isLong_7 ?_
  refine aw_istore_n (L2 := [some (.int 7), some (.int 0), some (.int 2)]) (by decide) rfl rfl dX0_isLong_8 ?_
  refine aw_iload_n (x := 7) rfl dX0_isLong_9 ?_
  refine aw_iconst (v := 1) (by decide) dX0_isLong_10 ?_
  refine aw_iaddz (z := 8) (by decide) dX0_isLong_11 ?_
  refine aw_iload_n (x := 2) rfl dX0_isLong_12 ?_
  refine aw_ishrz (z := 2) (by decide) dX0_isLong_13 ?_
  refine aw_iconst (v := 1) (by decide) dX0_isLong_14 ?_
  refine aw_iandz (z := 0) (by decide) dX0_isLong_15 ?_
  refine aw_iconst (v := 1) (by decide) dX0_isLong_16 ?_
  refine aw_icmp_ne (tgt := 24) (by decide) dX0_isLong_17 (fun _ => ?_) (fun z => absurd z (by decide))
  refine aw_iconst (v := 0) (by decide) dX0_isLong_24 ?_
  exact aw_zret rfl (by decide) (by decide) (by decide) dX0_isLong_25 ⟨by first | rfl | (simp [wd_w_row, row_self, row_row]; done) | (simp_all [wd_w_row, row_self, row_row]; done), by first | rfl | (simp [wd_w_row, row_self, row_row]; done) | (simp_all [wd_w_row, row_self, row_row]; done)⟩
theorem ct_X0_isLong_7_1 {ad : Nat → Nat → Nat → Nat} {o : wd_S}  : CT ad MX0_isLong [.int 7, .int 1] o (RT (some (.int 0)) o) := by
  refine CT.of (L := [some (.int 7), some (.int 1), none]) rfl rfl (by decide) (Nat.le_of_ble_eq_true rfl) rfl ?_
  refine aw_iload_n (x := 7) rfl dX0_isLong_0 ?_
  refine aw_rS (v := some (.int 3)) (o2 := o) ct_X0_ringCount_7 (mm_fit_of cbX0_ringCount (by decide) (by decide)) wq303 wq304 rfl rfl (Nat.le_of_ble_eq_true rfl) (by decide) (by decide) rfl dX0_isLong_1 ?_
  refine aw_iconst (v := 1) (by decide) dX0_isLong_4 ?_
  refine aw_isubz (z := 2) (by decide) dX0_isLong_5 ?_
  refine aw_iload_n (x := 1) rfl dX0_isLong_6 ?_
  refine aw_isubz (z := 1) (by decide) dX0_isLong_7 ?_
  refine aw_istore_n (L2 := [some (.int 7), some (.int 1), some (.int 1)]) (by decide) rfl rfl dX0_isLong_8 ?_
  refine aw_iload_n (x := 7) rfl dX0_isLong_9 ?_
  refine aw_iconst (v := 1) (by decide) dX0_isLong_10 ?_
  refine aw_iaddz (z := 8) (by decide) dX0_isLong_11 ?_
  refine aw_iload_n (x := 1) rfl dX0_isLong_12 ?_
  refine aw_ishrz (z := 4) (by decide) dX0_isLong_13 ?_
  refine aw_iconst (v := 1) (by decide) dX0_isLong_14 ?_
  refine aw_iandz (z := 0) (by decide) dX0_isLong_15 ?_
  refine aw_iconst (v := 1) (by decide) dX0_isLong_16 ?_
  refine aw_icmp_ne (tgt := 24) (by decide) dX0_isLong_17 (fun _ => ?_) (fun z => absurd z (by decide))
  refine aw_iconst (v := 0) (by decide) dX0_isLong_24 ?_
  exact aw_zret rfl (by decide) (by decide) (by decide) dX0_isLong_25 ⟨by first | rfl | (simp [wd_w_row, row_self, row_row]; done) | (simp_all [wd_w_row, row_self, row_row]; done), by first | rfl | (simp [wd_w_row, row_self, row_row]; done) | (simp_all [wd_w_row, row_self, row_row]; done)⟩
theorem ct_X0_isLong_7_2 {ad : Nat → Nat → Nat → Nat} {o : wd_S}  : CT ad MX0_isLong [.int 7, .int 2] o (RT (some (.int 0)) o) := by
  refine CT.of (L := [some (.int 7), some (.int 2), none]) rfl rfl (by decide) (Nat.le_of_ble_eq_true rfl) rfl ?_
  refine aw_iload_n (x := 7) rfl dX0_isLong_0 ?_
  refine aw_rS (v := some (.int 3)) (o2 := o) ct_X0_ringCount_7 (mm_fit_of cbX0_ringCount (by decide) (by decide)) wq303 wq304 rfl rfl (Nat.le_of_ble_eq_true rfl) (by decide) (by decide) rfl dX0_isLong_1 ?_
  refine aw_iconst (v := 1) (by decide) dX0_isLong_4 ?_
  refine aw_isubz (z := 2) (by decide) dX0_isLong_5 ?_
  refine aw_iload_n (x := 2) rfl dX0_isLong_6 ?_
  refine aw_isubz (z := 0) (by decide) dX0_isLong_7 ?_
  refine aw_istore_n (L2 := [some (.int 7), some (.int 2), some (.int 0)]) (by decide) rfl rfl dX0_isLong_8 ?_
  refine aw_iload_n (x := 7) rfl dX0_isLong_9 ?_
  refine aw_iconst (v := 1) (by decide) dX0_isLong_10 ?_
  refine aw_iaddz (z := 8) (by decide) dX0_isLong_11 ?_
  refine aw_iload_n (x := 0) rfl dX0_isLong_12 ?_
  refine aw_ishrz (z := 8) (by decide) dX0_isLong_13 ?_
  refine aw_iconst (v := 1) (by decide) dX0_isLong_14 ?_
  refine aw_iandz (z := 0) (by decide) dX0_isLong_15 ?_
  refine aw_iconst (v := 1) (by decide) dX0_isLong_16 ?_
  refine aw_icmp_ne (tgt := 24) (by decide) dX0_isLong_17 (fun _ => ?_) (fun z => absurd z (by decide))
  refine aw_iconst (v := 0) (by decide) dX0_isLong_24 ?_
  exact aw_zret rfl (by decide) (by decide) (by decide) dX0_isLong_25 ⟨by first | rfl | (simp [wd_w_row, row_self, row_row]; done) | (simp_all [wd_w_row, row_self, row_row]; done), by first | rfl | (simp [wd_w_row, row_self, row_row]; done) | (simp_all [wd_w_row, row_self, row_row]; done)⟩
theorem ct_X0_lengthOf_7 {ad : Nat → Nat → Nat → Nat} {o : wd_S}  : CT ad MX0_lengthOf [.int 7] o (RT (some (.int 9)) o) := by
  refine CT.of (L := [some (.int 7), none, none, none]) rfl rfl (by decide) (Nat.le_of_ble_eq_true rfl) rfl ?_
  refine aw_iload_n (x := 7) rfl dX0_lengthOf_0 ?_
  refine aw_rS (v := some (.int 3)) (o2 := o) ct_X0_ringCount_7 (mm_fit_of cbX0_ringCount (by decide) (by decide)) wq303 wq304 rfl rfl (Nat.le_of_ble_eq_true rfl) (by decide) (by decide) rfl dX0_lengthOf_1 ?_
  refine aw_istore_n (L2 := [some (.int 7), some (.int 3), none, none]) (by decide) rfl rfl dX0_lengthOf_4 ?_
  refine aw_iload_n (x := 3) rfl dX0_lengthOf_5 ?_
  refine aw_iconst (v := 1) (by decide) dX0_lengthOf_6 ?_
  refine aw_isubz (z := 2) (by decide) dX0_lengthOf_7 ?_
  refine aw_iconst (v := 1) (by decide) dX0_lengthOf_8 ?_
  refine aw_imulz (z := 2) (by decide) dX0_lengthOf_9 ?_
  refine aw_iconst (v := 4) (by decide) dX0_lengthOf_10 ?_
  refine aw_iaddz (z := 6) (by decide) dX0_lengthOf_11 ?_
  refine aw_istore_n (L2 := [some (.int 7), some (.int 3), some (.int 6), none]) (by decide) rfl rfl dX0_lengthOf_12 ?_
  refine aw_iconst (v := 0) (by decide) dX0_lengthOf_13 ?_
  refine aw_istore_n (L2 := [some (.int 7), some (.int 3), some (.int 6), some (.int 0)]) (by decide) rfl rfl dX0_lengthOf_14 ?_
  refine aw_iload_n (x := 0) rfl dX0_lengthOf_15 ?_
  refine aw_iload_n (x := 3) rfl dX0_lengthOf_16 ?_
  refine aw_icmp_ge (tgt := 45) (by decide) dX0_lengthOf_17 (fun z => absurd z (by decide)) (fun _ => ?_)
  refine aw_iload_n (x := 6) rfl dX0_lengthOf_20 ?_
  refine aw_iload_n (x := 7) rfl dX0_lengthOf_21 ?_
  refine aw_iconst (v := 1) (by decide) dX0_lengthOf_22 ?_
  refine aw_iaddz (z := 8) (by decide) dX0_lengthOf_23 ?_
  refine aw_iload_n (x := 0) rfl dX0_lengthOf_24 ?_
  refine aw_ishrz (z := 8) (by decide) dX0_lengthOf_25 ?_
  refine aw_iconst (v := 1) (by decide) dX0_lengthOf_26 ?_
  refine aw_iandz (z := 0) (by decide) dX0_lengthOf_27 ?_
  refine aw_iconst (v := 1) (by decide) dX0_lengthOf_28 ?_
  refine aw_icmp_ne (tgt := 36) (by decide) dX0_lengthOf_29 (fun _ => ?_) (fun z => absurd z (by decide))
  refine aw_iconst (v := 1) (by decide) dX0_lengthOf_36 ?_
  refine aw_iaddz (z := 7) (by decide) dX0_lengthOf_37 ?_
  refine aw_istore_n (L2 := [some (.int 7), some (.int 3), some (.int 7), some (.int 0)]) (by decide) rfl rfl dX0_lengthOf_38 ?_
  refine aw_iinc (x := 0) (v := 1) (L2 := [some (.int 7), some (.int 3), some (.int 7), some (.int 1)]) rfl (by decide) (by decide) rfl rfl dX0_lengthOf_39 ?_
  refine aw_goto (tgt := 15) (by decide) dX0_lengthOf_42 ?_
  refine aw_iload_n (x := 1) rfl dX0_lengthOf_15 ?_
  refine aw_iload_n (x := 3) rfl dX0_lengthOf_16 ?_
  refine aw_icmp_ge (tgt := 45) (by decide) dX0_lengthOf_17 (fun z => absurd z (by decide)) (fun _ => ?_)
  refine aw_iload_n (x := 7) rfl dX0_lengthOf_20 ?_
  refine aw_iload_n (x := 7) rfl dX0_lengthOf_21 ?_
  refine aw_iconst (v := 1) (by decide) dX0_lengthOf_22 ?_
  refine aw_iaddz (z := 8) (by decide) dX0_lengthOf_23 ?_
  refine aw_iload_n (x := 1) rfl dX0_lengthOf_24 ?_
  refine aw_ishrz (z := 4) (by decide) dX0_lengthOf_25 ?_
  refine aw_iconst (v := 1) (by decide) dX0_lengthOf_26 ?_
  refine aw_iandz (z := 0) (by decide) dX0_lengthOf_27 ?_
  refine aw_iconst (v := 1) (by decide) dX0_lengthOf_28 ?_
  refine aw_icmp_ne (tgt := 36) (by decide) dX0_lengthOf_29 (fun _ => ?_) (fun z => absurd z (by decide))
  refine aw_iconst (v := 1) (by decide) dX0_lengthOf_36 ?_
  refine aw_iaddz (z := 8) (by decide) dX0_lengthOf_37 ?_
  refine aw_istore_n (L2 := [some (.int 7), some (.int 3), some (.int 8), some (.int 1)]) (by decide) rfl rfl dX0_lengthOf_38 ?_
  refine aw_iinc (x := 1) (v := 2) (L2 := [some (.int 7), some (.int 3), some (.int 8), some (.int 2)]) rfl (by decide) (by decide) rfl rfl dX0_lengthOf_39 ?_
  refine aw_goto (tgt := 15) (by decide) dX0_lengthOf_42 ?_
  refine aw_iload_n (x := 2) rfl dX0_lengthOf_15 ?_
  refine aw_iload_n (x := 3) rfl dX0_lengthOf_16 ?_
  refine aw_icmp_ge (tgt := 45) (by decide) dX0_lengthOf_17 (fun z => absurd z (by decide)) (fun _ => ?_)
  refine aw_iload_n (x := 8) rfl dX0_lengthOf_20 ?_
  refine aw_iload_n (x := 7) rfl dX0_lengthOf_21 ?_
  refine aw_iconst (v := 1) (by decide) dX0_lengthOf_22 ?_
  refine aw_iaddz (z := 8) (by decide) dX0_lengthOf_23 ?_
  refine aw_iload_n (x := 2) rfl dX0_lengthOf_24 ?_
  refine aw_ishrz (z := 2) (by decide) dX0_lengthOf_25 ?_
  refine aw_iconst (v := 1) (by decide) dX0_lengthOf_26 ?_
  refine aw_iandz (z := 0) (by decide) dX0_lengthOf_27 ?_
  refine aw_iconst (v := 1) (by decide) dX0_lengthOf_28 ?_
  refine aw_icmp_ne (tgt := 36) (by decide) dX0_lengthOf_29 (fun _ => ?_) (fun z => absurd z (by decide))
  refine aw_iconst (v := 1) (by decide) dX0_lengthOf_36 ?_
  refine aw_iaddz (z := 9) (by decide) dX0_lengthOf_37 ?_
  refine aw_istore_n (L2 := [some (.int 7), some (.int 3), some (.int 9), some (.int 2)]) (by decide) rfl rfl dX0_lengthOf_38 ?_
  refine aw_iinc (x := 2) (v := 3) (L2 := [some (.int 7), some (.int 3), some (.int 9), some (.int 3)]) rfl (by decide) (by decide) rfl rfl dX0_lengthOf_39 ?_
  refine aw_goto (tgt := 15) (by decide) dX0_lengthOf_42 ?_
  refine aw_iload_n (x := 3) rfl dX0_lengthOf_15 ?_
  refine aw_iload_n (x := 3) rfl dX0_lengthOf_16 ?_
  refine aw_icmp_ge (tgt := 45) (by decide) dX0_lengthOf_17 (fun _ => ?_) (fun z => absurd z (by decide))
  refine aw_iload_n (x := 9) rfl dX0_lengthOf_45 ?_
  exact aw_iret rfl (by decide) (by decide) dX0_lengthOf_46 ⟨by first | rfl | (simp [wd_w_row, row_self, row_row]; done) | (simp_all [wd_w_row, row_self, row_row]; done), by first | rfl | (simp [wd_w_row, row_self, row_row]; done) | (simp_all [wd_w_row, row_self, row_row]; done)⟩
theorem ct_X0_soundAt_7 {ad : Nat → Nat → Nat → Nat} {o : wd_S} {t : Int32} : CT ad MX0_soundAt [.int 7, .int t] o (RT (some (.int (tc_s7 t))) o) := by
  refine CT.of (L := [some (.int 7), some (.int t), none, none, none, none, none]) rfl rfl (by decide) (Nat.le_of_ble_eq_true rfl) rfl ?_
  refine aw_iload_n (x := 7) rfl dX0_soundAt_0 ?_
  refine aw_rS (v := some (.int 3)) (o2 := o) ct_X0_ringCount_7 (mm_fit_of cbX0_ringCount (by decide) (by decide)) wq303 wq304 rfl rfl (Nat.le_of_ble_eq_true rfl) (by decide) (by decide) rfl dX0_soundAt_1 ?_
  refine aw_istore_n (L2 := [some (.int 7), some (.int t), some (.int 3), none, none, none, none]) (by decide) rfl rfl dX0_soundAt_4 ?_
  refine aw_iconst (v := 0) (by decide) dX0_soundAt_5 ?_
  refine aw_istore_n (L2 := [some (.int 7), some (.int t), some (.int 3), some (.int 0), none, none, none]) (by decide) rfl rfl dX0_soundAt_6 ?_
  refine aw_iconst (v := 0) (by decide) dX0_soundAt_7 ?_
  refine aw_istore (L2 := [some (.int 7), some (.int t), some (.int 3), some (.int 0), some (.int 0), none, none]) (by decide) rfl rfl dX0_soundAt_8 ?_
  refine aw_iload (x := 0) rfl dX0_soundAt_10 ?_
  refine aw_iload_n (x := 3) rfl dX0_soundAt_12 ?_
  refine aw_icmp_ge (tgt := 71) (by decide) dX0_soundAt_13 (fun z => absurd z (by decide)) (fun _ => ?_)
  refine aw_iload_n (x := 7) rfl dX0_soundAt_16 ?_
  refine aw_iload (x := 0) rfl dX0_soundAt_17 ?_
  refine aw_rS (v := some (.int 0)) (o2 := o) ct_X0_isLong_7_0 (mm_fit_of cbX0_isLong (by decide) (by decide)) wq309 wq310 rfl rfl (Nat.le_of_ble_eq_true rfl) (by decide) (by decide) rfl dX0_soundAt_19 ?_
  refine aw_istore (L2 := [some (.int 7), some (.int t), some (.int 3), some (.int 0), some (.int 0), some (.int 0), none]) (by decide) rfl rfl dX0_soundAt_22 ?_
  refine aw_iload_n (x := 0) rfl dX0_soundAt_24 ?_
  refine aw_iload (x := 0) rfl dX0_soundAt_25 ?_
  refine aw_if_eq (tgt := 34) (by decide) dX0_soundAt_27 (fun _ => ?_) (fun z => absurd z (by decide))
  refine aw_iconst (v := 1) (by decide) dX0_soundAt_34 ?_
  refine aw_iaddz (z := 1) (by decide) dX0_soundAt_35 ?_
  refine aw_istore (L2 := [some (.int 7), some (.int t), some (.int 3), some (.int 0), some (.int 0), some (.int 0), some (.int 1)]) (by decide) rfl rfl dX0_soundAt_36 ?_
  refine aw_iload_n (x := t) rfl dX0_soundAt_38 ?_
  refine aw_iload_n (x := 0) rfl dX0_soundAt_39 ?_
  refine aw_icmp_lt (tgt := 60) (by decide) dX0_soundAt_40 (fun b1 => ?_) (fun b1 => ?_)
  · skip
    refine aw_iload (x := 1) rfl dX0_soundAt_60 ?_
    refine aw_iconst (v := 1) (by decide) dX0_soundAt_62 ?_
    refine aw_iaddz (z := 2) (by decide) dX0_soundAt_63 ?_
    refine aw_istore_n (L2 := [some (.int 7), some (.int t), some (.int 3), some (.int 2), some (.int 0), some (.int 0), some (.int 1)]) (by decide) rfl rfl dX0_soundAt_64 ?_
    refine aw_iinc (x := 0) (v := 1) (L2 := [some (.int 7), some (.int t), some (.int 3), some (.int 2), some (.int 1), some (.int 0), some (.int 1)]) rfl (by decide) (by decide) rfl rfl dX0_soundAt_65 ?_
    refine aw_goto (tgt := 10) (by decide) dX0_soundAt_68 ?_
    refine aw_iload (x := 1) rfl dX0_soundAt_10 ?_
    refine aw_iload_n (x := 3) rfl dX0_soundAt_12 ?_
    refine aw_icmp_ge (tgt := 71) (by decide) dX0_soundAt_13 (fun z => absurd z (by decide)) (fun _ => ?_)
    refine aw_iload_n (x := 7) rfl dX0_soundAt_16 ?_
    refine aw_iload (x := 1) rfl dX0_soundAt_17 ?_
    refine aw_rS (v := some (.int 0)) (o2 := o) ct_X0_isLong_7_1 (mm_fit_of cbX0_isLong (by decide) (by decide)) wq309 wq310 rfl rfl (Nat.le_of_ble_eq_true rfl) (by decide) (by decide) rfl dX0_soundAt_19 ?_
    refine aw_istore (L2 := [some (.int 7), some (.int t), some (.int 3), some (.int 2), some (.int 1), some (.int 0), some (.int 1)]) (by decide) rfl rfl dX0_soundAt_22 ?_
    refine aw_iload_n (x := 2) rfl dX0_soundAt_24 ?_
    refine aw_iload (x := 0) rfl dX0_soundAt_25 ?_
    refine aw_if_eq (tgt := 34) (by decide) dX0_soundAt_27 (fun _ => ?_) (fun z => absurd z (by decide))
    refine aw_iconst (v := 1) (by decide) dX0_soundAt_34 ?_
    refine aw_iaddz (z := 3) (by decide) dX0_soundAt_35 ?_
    refine aw_istore (L2 := [some (.int 7), some (.int t), some (.int 3), some (.int 2), some (.int 1), some (.int 0), some (.int 3)]) (by decide) rfl rfl dX0_soundAt_36 ?_
    refine aw_iload_n (x := t) rfl dX0_soundAt_38 ?_
    refine aw_iload_n (x := 2) rfl dX0_soundAt_39 ?_
    refine aw_icmp_lt (tgt := 60) (by decide) dX0_soundAt_40 (fun b2 => ?_) (fun b2 => ?_)
    · skip
      refine aw_iload (x := 3) rfl dX0_soundAt_60 ?_
      refine aw_iconst (v := 1) (by decide) dX0_soundAt_62 ?_
      refine aw_iaddz (z := 4) (by decide) dX0_soundAt_63 ?_
      refine aw_istore_n (L2 := [some (.int 7), some (.int t), some (.int 3), some (.int 4), some (.int 1), some (.int 0), some (.int 3)]) (by decide) rfl rfl dX0_soundAt_64 ?_
      refine aw_iinc (x := 1) (v := 2) (L2 := [some (.int 7), some (.int t), some (.int 3), some (.int 4), some (.int 2), some (.int 0), some (.int 3)]) rfl (by decide) (by decide) rfl rfl dX0_soundAt_65 ?_
      refine aw_goto (tgt := 10) (by decide) dX0_soundAt_68 ?_
      refine aw_iload (x := 2) rfl dX0_soundAt_10 ?_
      refine aw_iload_n (x := 3) rfl dX0_soundAt_12 ?_
      refine aw_icmp_ge (tgt := 71) (by decide) dX0_soundAt_13 (fun z => absurd z (by decide)) (fun _ => ?_)
      refine aw_iload_n (x := 7) rfl dX0_soundAt_16 ?_
      refine aw_iload (x := 2) rfl dX0_soundAt_17 ?_
      refine aw_rS (v := some (.int 0)) (o2 := o) ct_X0_isLong_7_2 (mm_fit_of cbX0_isLong (by decide) (by decide)) wq309 wq310 rfl rfl (Nat.le_of_ble_eq_true rfl) (by decide) (by decide) rfl dX0_soundAt_19 ?_
      refine aw_istore (L2 := [some (.int 7), some (.int t), some (.int 3), some (.int 4), some (.int 2), some (.int 0), some (.int 3)]) (by decide) rfl rfl dX0_soundAt_22 ?_
      refine aw_iload_n (x := 4) rfl dX0_soundAt_24 ?_
      refine aw_iload (x := 0) rfl dX0_soundAt_25 ?_
      refine aw_if_eq (tgt := 34) (by decide) dX0_soundAt_27 (fun _ => ?_) (fun z => absurd z (by decide))
      refine aw_iconst (v := 1) (by decide) dX0_soundAt_34 ?_
      refine aw_iaddz (z := 5) (by decide) dX0_soundAt_35 ?_
      refine aw_istore (L2 := [some (.int 7), some (.int t), some (.int 3), some (.int 4), some (.int 2), some (.int 0), some (.int 5)]) (by decide) rfl rfl dX0_soundAt_36 ?_
      refine aw_iload_n (x := t) rfl dX0_soundAt_38 ?_
      refine aw_iload_n (x := 4) rfl dX0_soundAt_39 ?_
      refine aw_icmp_lt (tgt := 60) (by decide) dX0_soundAt_40 (fun b3 => ?_) (fun b3 => ?_)
      · skip
        refine aw_iload (x := 5) rfl dX0_soundAt_60 ?_
        refine aw_iconst (v := 1) (by decide) dX0_soundAt_62 ?_
        refine aw_iaddz (z := 6) (by decide) dX0_soundAt_63 ?_
        refine aw_istore_n (L2 := [some (.int 7), some (.int t), some (.int 3), some (.int 6), some (.int 2), some (.int 0), some (.int 5)]) (by decide) rfl rfl dX0_soundAt_64 ?_
        refine aw_iinc (x := 2) (v := 3) (L2 := [some (.int 7), some (.int t), some (.int 3), some (.int 6), some (.int 3), some (.int 0), some (.int 5)]) rfl (by decide) (by decide) rfl rfl dX0_soundAt_65 ?_
        refine aw_goto (tgt := 10) (by decide) dX0_soundAt_68 ?_
        refine aw_iload (x := 3) rfl dX0_soundAt_10 ?_
        refine aw_iload_n (x := 3) rfl dX0_soundAt_12 ?_
        refine aw_icmp_ge (tgt := 71) (by decide) dX0_soundAt_13 (fun _ => ?_) (fun z => absurd z (by decide))
        refine aw_iconst (v := 0) (by decide) dX0_soundAt_71 ?_
        exact aw_iret rfl (by decide) (by decide) dX0_soundAt_72 ⟨by first | rfl | (simp [tc_s7, wd_w_row, row_self, row_row, b1, b2, b3]; done) | (simp_all [tc_s7, wd_w_row, row_self, row_row, b1, b2, b3]; done), by first | rfl | (simp [tc_s7, wd_w_row, row_self, row_row, b1, b2, b3]; done) | (simp_all [tc_s7, wd_w_row, row_self, row_row, b1, b2, b3]; done)⟩
      · skip
        refine aw_iload_n (x := t) rfl dX0_soundAt_43 ?_
        refine aw_iload (x := 5) rfl dX0_soundAt_44 ?_
        refine aw_icmp_ge (tgt := 60) (by decide) dX0_soundAt_46 (fun b4 => ?_) (fun b4 => ?_)
        · skip
          refine aw_iload (x := 5) rfl dX0_soundAt_60 ?_
          refine aw_iconst (v := 1) (by decide) dX0_soundAt_62 ?_
          refine aw_iaddz (z := 6) (by decide) dX0_soundAt_63 ?_
          refine aw_istore_n (L2 := [some (.int 7), some (.int t), some (.int 3), some (.int 6), some (.int 2), some (.int 0), some (.int 5)]) (by decide) rfl rfl dX0_soundAt_64 ?_
          refine aw_iinc (x := 2) (v := 3) (L2 := [some (.int 7), some (.int t), some (.int 3), some (.int 6), some (.int 3), some (.int 0), some (.int 5)]) rfl (by decide) (by decide) rfl rfl dX0_soundAt_65 ?_
          refine aw_goto (tgt := 10) (by decide) dX0_soundAt_68 ?_
          refine aw_iload (x := 3) rfl dX0_soundAt_10 ?_
          refine aw_iload_n (x := 3) rfl dX0_soundAt_12 ?_
          refine aw_icmp_ge (tgt := 71) (by decide) dX0_soundAt_13 (fun _ => ?_) (fun z => absurd z (by decide))
          refine aw_iconst (v := 0) (by decide) dX0_soundAt_71 ?_
          exact aw_iret rfl (by decide) (by decide) dX0_soundAt_72 ⟨by first | rfl | (simp [tc_s7, wd_w_row, row_self, row_row, b1, b2, b3, b4]; done) | (simp_all [tc_s7, wd_w_row, row_self, row_row, b1, b2, b3, b4]; done), by first | rfl | (simp [tc_s7, wd_w_row, row_self, row_row, b1, b2, b3, b4]; done) | (simp_all [tc_s7, wd_w_row, row_self, row_row, b1, b2, b3, b4]; done)⟩
        · skip
          refine aw_iload (x := 0) rfl dX0_soundAt_49 ?_
          refine aw_if_eq (tgt := 58) (by decide) dX0_soundAt_51 (fun _ => ?_) (fun z => absurd z (by decide))
          refine aw_iconst (v := 1) (by decide) dX0_soundAt_58 ?_
          exact aw_iret rfl (by decide) (by decide) dX0_soundAt_59 ⟨by first | rfl | (simp [tc_s7, wd_w_row, row_self, row_row, b1, b2, b3, b4]; done) | (simp_all [tc_s7, wd_w_row, row_self, row_row, b1, b2, b3, b4]; done), by first | rfl | (simp [tc_s7, wd_w_row, row_self, row_row, b1, b2, b3, b4]; done) | (simp_all [tc_s7, wd_w_row, row_self, row_row, b1, b2, b3, b4]; done)⟩
    · skip
      refine aw_iload_n (x := t) rfl dX0_soundAt_43 ?_
      refine aw_iload (x := 3) rfl dX0_soundAt_44 ?_
      refine aw_icmp_ge (tgt := 60) (by decide) dX0_soundAt_46 (fun b5 => ?_) (fun b5 => ?_)
      · skip
        refine aw_iload (x := 3) rfl dX0_soundAt_60 ?_
        refine aw_iconst (v := 1) (by decide) dX0_soundAt_62 ?_
        refine aw_iaddz (z := 4) (by decide) dX0_soundAt_63 ?_
        refine aw_istore_n (L2 := [some (.int 7), some (.int t), some (.int 3), some (.int 4), some (.int 1), some (.int 0), some (.int 3)]) (by decide) rfl rfl dX0_soundAt_64 ?_
        refine aw_iinc (x := 1) (v := 2) (L2 := [some (.int 7), some (.int t), some (.int 3), some (.int 4), some (.int 2), some (.int 0), some (.int 3)]) rfl (by decide) (by decide) rfl rfl dX0_soundAt_65 ?_
        refine aw_goto (tgt := 10) (by decide) dX0_soundAt_68 ?_
        refine aw_iload (x := 2) rfl dX0_soundAt_10 ?_
        refine aw_iload_n (x := 3) rfl dX0_soundAt_12 ?_
        refine aw_icmp_ge (tgt := 71) (by decide) dX0_soundAt_13 (fun z => absurd z (by decide)) (fun _ => ?_)
        refine aw_iload_n (x := 7) rfl dX0_soundAt_16 ?_
        refine aw_iload (x := 2) rfl dX0_soundAt_17 ?_
        refine aw_rS (v := some (.int 0)) (o2 := o) ct_X0_isLong_7_2 (mm_fit_of cbX0_isLong (by decide) (by decide)) wq309 wq310 rfl rfl (Nat.le_of_ble_eq_true rfl) (by decide) (by decide) rfl dX0_soundAt_19 ?_
        refine aw_istore (L2 := [some (.int 7), some (.int t), some (.int 3), some (.int 4), some (.int 2), some (.int 0), some (.int 3)]) (by decide) rfl rfl dX0_soundAt_22 ?_
        refine aw_iload_n (x := 4) rfl dX0_soundAt_24 ?_
        refine aw_iload (x := 0) rfl dX0_soundAt_25 ?_
        refine aw_if_eq (tgt := 34) (by decide) dX0_soundAt_27 (fun _ => ?_) (fun z => absurd z (by decide))
        refine aw_iconst (v := 1) (by decide) dX0_soundAt_34 ?_
        refine aw_iaddz (z := 5) (by decide) dX0_soundAt_35 ?_
        refine aw_istore (L2 := [some (.int 7), some (.int t), some (.int 3), some (.int 4), some (.int 2), some (.int 0), some (.int 5)]) (by decide) rfl rfl dX0_soundAt_36 ?_
        refine aw_iload_n (x := t) rfl dX0_soundAt_38 ?_
        refine aw_iload_n (x := 4) rfl dX0_soundAt_39 ?_
        refine aw_icmp_lt (tgt := 60) (by decide) dX0_soundAt_40 (fun b6 => ?_) (fun b6 => ?_)
        · skip
          refine aw_iload (x := 5) rfl dX0_soundAt_60 ?_
          refine aw_iconst (v := 1) (by decide) dX0_soundAt_62 ?_
          refine aw_iaddz (z := 6) (by decide) dX0_soundAt_63 ?_
          refine aw_istore_n (L2 := [some (.int 7), some (.int t), some (.int 3), some (.int 6), some (.int 2), some (.int 0), some (.int 5)]) (by decide) rfl rfl dX0_soundAt_64 ?_
          refine aw_iinc (x := 2) (v := 3) (L2 := [some (.int 7), some (.int t), some (.int 3), some (.int 6), some (.int 3), some (.int 0), some (.int 5)]) rfl (by decide) (by decide) rfl rfl dX0_soundAt_65 ?_
          refine aw_goto (tgt := 10) (by decide) dX0_soundAt_68 ?_
          refine aw_iload (x := 3) rfl dX0_soundAt_10 ?_
          refine aw_iload_n (x := 3) rfl dX0_soundAt_12 ?_
          refine aw_icmp_ge (tgt := 71) (by decide) dX0_soundAt_13 (fun _ => ?_) (fun z => absurd z (by decide))
          refine aw_iconst (v := 0) (by decide) dX0_soundAt_71 ?_
          exact aw_iret rfl (by decide) (by decide) dX0_soundAt_72 ⟨by first | rfl | (simp [tc_s7, wd_w_row, row_self, row_row, b1, b2, b5, b6]; done) | (simp_all [tc_s7, wd_w_row, row_self, row_row, b1, b2, b5, b6]; done), by first | rfl | (simp [tc_s7, wd_w_row, row_self, row_row, b1, b2, b5, b6]; done) | (simp_all [tc_s7, wd_w_row, row_self, row_row, b1, b2, b5, b6]; done)⟩
        · skip
          refine aw_iload_n (x := t) rfl dX0_soundAt_43 ?_
          refine aw_iload (x := 5) rfl dX0_soundAt_44 ?_
          refine aw_icmp_ge (tgt := 60) (by decide) dX0_soundAt_46 (fun b7 => ?_) (fun b7 => ?_)
          · skip
            refine aw_iload (x := 5) rfl dX0_soundAt_60 ?_
            refine aw_iconst (v := 1) (by decide) dX0_soundAt_62 ?_
            refine aw_iaddz (z := 6) (by decide) dX0_soundAt_63 ?_
            refine aw_istore_n (L2 := [some (.int 7), some (.int t), some (.int 3), some (.int 6), some (.int 2), some (.int 0), some (.int 5)]) (by decide) rfl rfl dX0_soundAt_64 ?_
            refine aw_iinc (x := 2) (v := 3) (L2 := [some (.int 7), some (.int t), some (.int 3), some (.int 6), some (.int 3), some (.int 0), some (.int 5)]) rfl (by decide) (by decide) rfl rfl dX0_soundAt_65 ?_
            refine aw_goto (tgt := 10) (by decide) dX0_soundAt_68 ?_
            refine aw_iload (x := 3) rfl dX0_soundAt_10 ?_
            refine aw_iload_n (x := 3) rfl dX0_soundAt_12 ?_
            refine aw_icmp_ge (tgt := 71) (by decide) dX0_soundAt_13 (fun _ => ?_) (fun z => absurd z (by decide))
            refine aw_iconst (v := 0) (by decide) dX0_soundAt_71 ?_
            exact aw_iret rfl (by decide) (by decide) dX0_soundAt_72 ⟨by first | rfl | (simp [tc_s7, wd_w_row, row_self, row_row, b1, b2, b5, b6, b7]; done) | (simp_all [tc_s7, wd_w_row, row_self, row_row, b1, b2, b5, b6, b7]; done), by first | rfl | (simp [tc_s7, wd_w_row, row_self, row_row, b1, b2, b5, b6, b7]; done) | (simp_all [tc_s7, wd_w_row, row_self, row_row, b1, b2, b5, b6, b7]; done)⟩
          · skip
            refine aw_iload (x := 0) rfl dX0_soundAt_49 ?_
            refine aw_if_eq (tgt := 58) (by decide) dX0_soundAt_51 (fun _ => ?_) (fun z => absurd z (by decide))
            refine aw_iconst (v := 1) (by decide) dX0_soundAt_58 ?_
            exact aw_iret rfl (by decide) (by decide) dX0_soundAt_59 ⟨by first | rfl | (simp [tc_s7, wd_w_row, row_self, row_row, b1, b2, b5, b6, b7]; done) | (simp_all [tc_s7, wd_w_row, row_self, row_row, b1, b2, b5, b6, b7]; done), by first | rfl | (simp [tc_s7, wd_w_row, row_self, row_row, b1, b2, b5, b6, b7]; done) | (simp_all [tc_s7, wd_w_row, row_self, row_row, b1, b2, b5, b6, b7]; done)⟩
      · skip
        refine aw_iload (x := 0) rfl dX0_soundAt_49 ?_
        refine aw_if_eq (tgt := 58) (by decide) dX0_soundAt_51 (fun _ => ?_) (fun z => absurd z (by decide))
        refine aw_iconst (v := 1) (by decide) dX0_soundAt_58 ?_
        exact aw_iret rfl (by decide) (by decide) dX0_soundAt_59 ⟨by first | rfl | (simp [tc_s7, wd_w_row, row_self, row_row, b1, b2, b5]; done) | (simp_all [tc_s7, wd_w_row, row_self, row_row, b1, b2, b5]; done), by first | rfl | (simp [tc_s7, wd_w_row, row_self, row_row, b1, b2, b5]; done) | (simp_all [tc_s7, wd_w_row, row_self, row_row, b1, b2, b5]; done)⟩
  · skip
    refine aw_iload_n (x := t) rfl dX0_soundAt_43 ?_
    refine aw_iload (x := 1) rfl dX0_soundAt_44 ?_
    refine aw_icmp_ge (tgt := 60) (by decide) dX0_soundAt_46 (fun b8 => ?_) (fun b8 => ?_)
    · skip
      refine aw_iload (x := 1) rfl dX0_soundAt_60 ?_
      refine aw_iconst (v := 1) (by decide) dX0_soundAt_62 ?_
      refine aw_iaddz (z := 2) (by decide) dX0_soundAt_63 ?_
      refine aw_istore_n (L2 := [some (.int 7), some (.int t), some (.int 3), some (.int 2), some (.int 0), some (.int 0), some (.int 1)]) (by decide) rfl rfl dX0_soundAt_64 ?_
      refine aw_iinc (x := 0) (v := 1) (L2 := [some (.int 7), some (.int t), some (.int 3), some (.int 2), some (.int 1), some (.int 0), some (.int 1)]) rfl (by decide) (by decide) rfl rfl dX0_soundAt_65 ?_
      refine aw_goto (tgt := 10) (by decide) dX0_soundAt_68 ?_
      refine aw_iload (x := 1) rfl dX0_soundAt_10 ?_
      refine aw_iload_n (x := 3) rfl dX0_soundAt_12 ?_
      refine aw_icmp_ge (tgt := 71) (by decide) dX0_soundAt_13 (fun z => absurd z (by decide)) (fun _ => ?_)
      refine aw_iload_n (x := 7) rfl dX0_soundAt_16 ?_
      refine aw_iload (x := 1) rfl dX0_soundAt_17 ?_
      refine aw_rS (v := some (.int 0)) (o2 := o) ct_X0_isLong_7_1 (mm_fit_of cbX0_isLong (by decide) (by decide)) wq309 wq310 rfl rfl (Nat.le_of_ble_eq_true rfl) (by decide) (by decide) rfl dX0_soundAt_19 ?_
      refine aw_istore (L2 := [some (.int 7), some (.int t), some (.int 3), some (.int 2), some (.int 1), some (.int 0), some (.int 1)]) (by decide) rfl rfl dX0_soundAt_22 ?_
      refine aw_iload_n (x := 2) rfl dX0_soundAt_24 ?_
      refine aw_iload (x := 0) rfl dX0_soundAt_25 ?_
      refine aw_if_eq (tgt := 34) (by decide) dX0_soundAt_27 (fun _ => ?_) (fun z => absurd z (by decide))
      refine aw_iconst (v := 1) (by decide) dX0_soundAt_34 ?_
      refine aw_iaddz (z := 3) (by decide) dX0_soundAt_35 ?_
      refine aw_istore (L2 := [some (.int 7), some (.int t), some (.int 3), some (.int 2), some (.int 1), some (.int 0), some (.int 3)]) (by decide) rfl rfl dX0_soundAt_36 ?_
      refine aw_iload_n (x := t) rfl dX0_soundAt_38 ?_
      refine aw_iload_n (x := 2) rfl dX0_soundAt_39 ?_
      refine aw_icmp_lt (tgt := 60) (by decide) dX0_soundAt_40 (fun b9 => ?_) (fun b9 => ?_)
      · skip
        refine aw_iload (x := 3) rfl dX0_soundAt_60 ?_
        refine aw_iconst (v := 1) (by decide) dX0_soundAt_62 ?_
        refine aw_iaddz (z := 4) (by decide) dX0_soundAt_63 ?_
        refine aw_istore_n (L2 := [some (.int 7), some (.int t), some (.int 3), some (.int 4), some (.int 1), some (.int 0), some (.int 3)]) (by decide) rfl rfl dX0_soundAt_64 ?_
        refine aw_iinc (x := 1) (v := 2) (L2 := [some (.int 7), some (.int t), some (.int 3), some (.int 4), some (.int 2), some (.int 0), some (.int 3)]) rfl (by decide) (by decide) rfl rfl dX0_soundAt_65 ?_
        refine aw_goto (tgt := 10) (by decide) dX0_soundAt_68 ?_
        refine aw_iload (x := 2) rfl dX0_soundAt_10 ?_
        refine aw_iload_n (x := 3) rfl dX0_soundAt_12 ?_
        refine aw_icmp_ge (tgt := 71) (by decide) dX0_soundAt_13 (fun z => absurd z (by decide)) (fun _ => ?_)
        refine aw_iload_n (x := 7) rfl dX0_soundAt_16 ?_
        refine aw_iload (x := 2) rfl dX0_soundAt_17 ?_
        refine aw_rS (v := some (.int 0)) (o2 := o) ct_X0_isLong_7_2 (mm_fit_of cbX0_isLong (by decide) (by decide)) wq309 wq310 rfl rfl (Nat.le_of_ble_eq_true rfl) (by decide) (by decide) rfl dX0_soundAt_19 ?_
        refine aw_istore (L2 := [some (.int 7), some (.int t), some (.int 3), some (.int 4), some (.int 2), some (.int 0), some (.int 3)]) (by decide) rfl rfl dX0_soundAt_22 ?_
        refine aw_iload_n (x := 4) rfl dX0_soundAt_24 ?_
        refine aw_iload (x := 0) rfl dX0_soundAt_25 ?_
        refine aw_if_eq (tgt := 34) (by decide) dX0_soundAt_27 (fun _ => ?_) (fun z => absurd z (by decide))
        refine aw_iconst (v := 1) (by decide) dX0_soundAt_34 ?_
        refine aw_iaddz (z := 5) (by decide) dX0_soundAt_35 ?_
        refine aw_istore (L2 := [some (.int 7), some (.int t), some (.int 3), some (.int 4), some (.int 2), some (.int 0), some (.int 5)]) (by decide) rfl rfl dX0_soundAt_36 ?_
        refine aw_iload_n (x := t) rfl dX0_soundAt_38 ?_
        refine aw_iload_n (x := 4) rfl dX0_soundAt_39 ?_
        refine aw_icmp_lt (tgt := 60) (by decide) dX0_soundAt_40 (fun b10 => ?_) (fun b10 => ?_)
        · skip
          refine aw_iload (x := 5) rfl dX0_soundAt_60 ?_
          refine aw_iconst (v := 1) (by decide) dX0_soundAt_62 ?_
          refine aw_iaddz (z := 6) (by decide) dX0_soundAt_63 ?_
          refine aw_istore_n (L2 := [some (.int 7), some (.int t), some (.int 3), some (.int 6), some (.int 2), some (.int 0), some (.int 5)]) (by decide) rfl rfl dX0_soundAt_64 ?_
          refine aw_iinc (x := 2) (v := 3) (L2 := [some (.int 7), some (.int t), some (.int 3), some (.int 6), some (.int 3), some (.int 0), some (.int 5)]) rfl (by decide) (by decide) rfl rfl dX0_soundAt_65 ?_
          refine aw_goto (tgt := 10) (by decide) dX0_soundAt_68 ?_
          refine aw_iload (x := 3) rfl dX0_soundAt_10 ?_
          refine aw_iload_n (x := 3) rfl dX0_soundAt_12 ?_
          refine aw_icmp_ge (tgt := 71) (by decide) dX0_soundAt_13 (fun _ => ?_) (fun z => absurd z (by decide))
          refine aw_iconst (v := 0) (by decide) dX0_soundAt_71 ?_
          exact aw_iret rfl (by decide) (by decide) dX0_soundAt_72 ⟨by first | rfl | (simp [tc_s7, wd_w_row, row_self, row_row, b1, b8, b9, b10]; done) | (simp_all [tc_s7, wd_w_row, row_self, row_row, b1, b8, b9, b10]; done), by first | rfl | (simp [tc_s7, wd_w_row, row_self, row_row, b1, b8, b9, b10]; done) | (simp_all [tc_s7, wd_w_row, row_self, row_row, b1, b8, b9, b10]; done)⟩
        · skip
          refine aw_iload_n (x := t) rfl dX0_soundAt_43 ?_
          refine aw_iload (x := 5) rfl dX0_soundAt_44 ?_
          refine aw_icmp_ge (tgt := 60) (by decide) dX0_soundAt_46 (fun b11 => ?_) (fun b11 => ?_)
          · skip
            refine aw_iload (x := 5) rfl dX0_soundAt_60 ?_
            refine aw_iconst (v := 1) (by decide) dX0_soundAt_62 ?_
            refine aw_iaddz (z := 6) (by decide) dX0_soundAt_63 ?_
            refine aw_istore_n (L2 := [some (.int 7), some (.int t), some (.int 3), some (.int 6), some (.int 2), some (.int 0), some (.int 5)]) (by decide) rfl rfl dX0_soundAt_64 ?_
            refine aw_iinc (x := 2) (v := 3) (L2 := [some (.int 7), some (.int t), some (.int 3), some (.int 6), some (.int 3), some (.int 0), some (.int 5)]) rfl (by decide) (by decide) rfl rfl dX0_soundAt_65 ?_
            refine aw_goto (tgt := 10) (by decide) dX0_soundAt_68 ?_
            refine aw_iload (x := 3) rfl dX0_soundAt_10 ?_
            refine aw_iload_n (x := 3) rfl dX0_soundAt_12 ?_
            refine aw_icmp_ge (tgt := 71) (by decide) dX0_soundAt_13 (fun _ => ?_) (fun z => absurd z (by decide))
            refine aw_iconst (v := 0) (by decide) dX0_soundAt_71 ?_
            exact aw_iret rfl (by decide) (by decide) dX0_soundAt_72 ⟨by first | rfl | (simp [tc_s7, wd_w_row, row_self, row_row, b1, b8, b9, b10, b11]; done) | (simp_all [tc_s7, wd_w_row, row_self, row_row, b1, b8, b9, b10, b11]; done), by first | rfl | (simp [tc_s7, wd_w_row, row_self, row_row, b1, b8, b9, b10, b11]; done) | (simp_all [tc_s7, wd_w_row, row_self, row_row, b1, b8, b9, b10, b11]; done)⟩
          · skip
            refine aw_iload (x := 0) rfl dX0_soundAt_49 ?_
            refine aw_if_eq (tgt := 58) (by decide) dX0_soundAt_51 (fun _ => ?_) (fun z => absurd z (by decide))
            refine aw_iconst (v := 1) (by decide) dX0_soundAt_58 ?_
            exact aw_iret rfl (by decide) (by decide) dX0_soundAt_59 ⟨by first | rfl | (simp [tc_s7, wd_w_row, row_self, row_row, b1, b8, b9, b10, b11]; done) | (simp_all [tc_s7, wd_w_row, row_self, row_row, b1, b8, b9, b10, b11]; done), by first | rfl | (simp [tc_s7, wd_w_row, row_self, row_row, b1, b8, b9, b10, b11]; done) | (simp_all [tc_s7, wd_w_row, row_self, row_row, b1, b8, b9, b10, b11]; done)⟩
      · skip
        refine aw_iload_n (x := t) rfl dX0_soundAt_43 ?_
        refine aw_iload (x := 3) rfl dX0_soundAt_44 ?_
        refine aw_icmp_ge (tgt := 60) (by decide) dX0_soundAt_46 (fun b12 => ?_) (fun b12 => ?_)
        · skip
          refine aw_iload (x := 3) rfl dX0_soundAt_60 ?_
          refine aw_iconst (v := 1) (by decide) dX0_soundAt_62 ?_
          refine aw_iaddz (z := 4) (by decide) dX0_soundAt_63 ?_
          refine aw_istore_n (L2 := [some (.int 7), some (.int t), some (.int 3), some (.int 4), some (.int 1), some (.int 0), some (.int 3)]) (by decide) rfl rfl dX0_soundAt_64 ?_
          refine aw_iinc (x := 1) (v := 2) (L2 := [some (.int 7), some (.int t), some (.int 3), some (.int 4), some (.int 2), some (.int 0), some (.int 3)]) rfl (by decide) (by decide) rfl rfl dX0_soundAt_65 ?_
          refine aw_goto (tgt := 10) (by decide) dX0_soundAt_68 ?_
          refine aw_iload (x := 2) rfl dX0_soundAt_10 ?_
          refine aw_iload_n (x := 3) rfl dX0_soundAt_12 ?_
          refine aw_icmp_ge (tgt := 71) (by decide) dX0_soundAt_13 (fun z => absurd z (by decide)) (fun _ => ?_)
          refine aw_iload_n (x := 7) rfl dX0_soundAt_16 ?_
          refine aw_iload (x := 2) rfl dX0_soundAt_17 ?_
          refine aw_rS (v := some (.int 0)) (o2 := o) ct_X0_isLong_7_2 (mm_fit_of cbX0_isLong (by decide) (by decide)) wq309 wq310 rfl rfl (Nat.le_of_ble_eq_true rfl) (by decide) (by decide) rfl dX0_soundAt_19 ?_
          refine aw_istore (L2 := [some (.int 7), some (.int t), some (.int 3), some (.int 4), some (.int 2), some (.int 0), some (.int 3)]) (by decide) rfl rfl dX0_soundAt_22 ?_
          refine aw_iload_n (x := 4) rfl dX0_soundAt_24 ?_
          refine aw_iload (x := 0) rfl dX0_soundAt_25 ?_
          refine aw_if_eq (tgt := 34) (by decide) dX0_soundAt_27 (fun _ => ?_) (fun z => absurd z (by decide))
          refine aw_iconst (v := 1) (by decide) dX0_soundAt_34 ?_
          refine aw_iaddz (z := 5) (by decide) dX0_soundAt_35 ?_
          refine aw_istore (L2 := [some (.int 7), some (.int t), some (.int 3), some (.int 4), some (.int 2), some (.int 0), some (.int 5)]) (by decide) rfl rfl dX0_soundAt_36 ?_
          refine aw_iload_n (x := t) rfl dX0_soundAt_38 ?_
          refine aw_iload_n (x := 4) rfl dX0_soundAt_39 ?_
          refine aw_icmp_lt (tgt := 60) (by decide) dX0_soundAt_40 (fun b13 => ?_) (fun b13 => ?_)
          · skip
            refine aw_iload (x := 5) rfl dX0_soundAt_60 ?_
            refine aw_iconst (v := 1) (by decide) dX0_soundAt_62 ?_
            refine aw_iaddz (z := 6) (by decide) dX0_soundAt_63 ?_
            refine aw_istore_n (L2 := [some (.int 7), some (.int t), some (.int 3), some (.int 6), some (.int 2), some (.int 0), some (.int 5)]) (by decide) rfl rfl dX0_soundAt_64 ?_
            refine aw_iinc (x := 2) (v := 3) (L2 := [some (.int 7), some (.int t), some (.int 3), some (.int 6), some (.int 3), some (.int 0), some (.int 5)]) rfl (by decide) (by decide) rfl rfl dX0_soundAt_65 ?_
            refine aw_goto (tgt := 10) (by decide) dX0_soundAt_68 ?_
            refine aw_iload (x := 3) rfl dX0_soundAt_10 ?_
            refine aw_iload_n (x := 3) rfl dX0_soundAt_12 ?_
            refine aw_icmp_ge (tgt := 71) (by decide) dX0_soundAt_13 (fun _ => ?_) (fun z => absurd z (by decide))
            refine aw_iconst (v := 0) (by decide) dX0_soundAt_71 ?_
            exact aw_iret rfl (by decide) (by decide) dX0_soundAt_72 ⟨by first | rfl | (simp [tc_s7, wd_w_row, row_self, row_row, b1, b8, b9, b12, b13]; done) | (simp_all [tc_s7, wd_w_row, row_self, row_row, b1, b8, b9, b12, b13]; done), by first | rfl | (simp [tc_s7, wd_w_row, row_self, row_row, b1, b8, b9, b12, b13]; done) | (simp_all [tc_s7, wd_w_row, row_self, row_row, b1, b8, b9, b12, b13]; done)⟩
          · skip
            refine aw_iload_n (x := t) rfl dX0_soundAt_43 ?_
            refine aw_iload (x := 5) rfl dX0_soundAt_44 ?_
            refine aw_icmp_ge (tgt := 60) (by decide) dX0_soundAt_46 (fun b14 => ?_) (fun b14 => ?_)
            · skip
              refine aw_iload (x := 5) rfl dX0_soundAt_60 ?_
              refine aw_iconst (v := 1) (by decide) dX0_soundAt_62 ?_
              refine aw_iaddz (z := 6) (by decide) dX0_soundAt_63 ?_
              refine aw_istore_n (L2 := [some (.int 7), some (.int t), some (.int 3), some (.int 6), some (.int 2), some (.int 0), some (.int 5)]) (by decide) rfl rfl dX0_soundAt_64 ?_
              refine aw_iinc (x := 2) (v := 3) (L2 := [some (.int 7), some (.int t), some (.int 3), some (.int 6), some (.int 3), some (.int 0), some (.int 5)]) rfl (by decide) (by decide) rfl rfl dX0_soundAt_65 ?_
              refine aw_goto (tgt := 10) (by decide) dX0_soundAt_68 ?_
              refine aw_iload (x := 3) rfl dX0_soundAt_10 ?_
              refine aw_iload_n (x := 3) rfl dX0_soundAt_12 ?_
              refine aw_icmp_ge (tgt := 71) (by decide) dX0_soundAt_13 (fun _ => ?_) (fun z => absurd z (by decide))
              refine aw_iconst (v := 0) (by decide) dX0_soundAt_71 ?_
              exact aw_iret rfl (by decide) (by decide) dX0_soundAt_72 ⟨by first | rfl | (simp [tc_s7, wd_w_row, row_self, row_row, b1, b8, b9, b12, b13, b14]; done) | (simp_all [tc_s7, wd_w_row, row_self, row_row, b1, b8, b9, b12, b13, b14]; done), by first | rfl | (simp [tc_s7, wd_w_row, row_self, row_row, b1, b8, b9, b12, b13, b14]; done) | (simp_all [tc_s7, wd_w_row, row_self, row_row, b1, b8, b9, b12, b13, b14]; done)⟩
            · skip
              refine aw_iload (x := 0) rfl dX0_soundAt_49 ?_
              refine aw_if_eq (tgt := 58) (by decide) dX0_soundAt_51 (fun _ => ?_) (fun z => absurd z (by decide))
              refine aw_iconst (v := 1) (by decide) dX0_soundAt_58 ?_
              exact aw_iret rfl (by decide) (by decide) dX0_soundAt_59 ⟨by first | rfl | (simp [tc_s7, wd_w_row, row_self, row_row, b1, b8, b9, b12, b13, b14]; done) | (simp_all [tc_s7, wd_w_row, row_self, row_row, b1, b8, b9, b12, b13, b14]; done), by first | rfl | (simp [tc_s7, wd_w_row, row_self, row_row, b1, b8, b9, b12, b13, b14]; done) | (simp_all [tc_s7, wd_w_row, row_self, row_row, b1, b8, b9, b12, b13, b14]; done)⟩
        · skip
          refine aw_iload (x := 0) rfl dX0_soundAt_49 ?_
          refine aw_if_eq (tgt := 58) (by decide) dX0_soundAt_51 (fun _ => ?_) (fun z => absurd z (by decide))
          refine aw_iconst (v := 1) (by decide) dX0_soundAt_58 ?_
          exact aw_iret rfl (by decide) (by decide) dX0_soundAt_59 ⟨by first | rfl | (simp [tc_s7, wd_w_row, row_self, row_row, b1, b8, b9, b12]; done) | (simp_all [tc_s7, wd_w_row, row_self, row_row, b1, b8, b9, b12]; done), by first | rfl | (simp [tc_s7, wd_w_row, row_self, row_row, b1, b8, b9, b12]; done) | (simp_all [tc_s7, wd_w_row, row_self, row_row, b1, b8, b9, b12]; done)⟩
    · skip
      refine aw_iload (x := 0) rfl dX0_soundAt_49 ?_
      refine aw_if_eq (tgt := 58) (by decide) dX0_soundAt_51 (fun _ => ?_) (fun z => absurd z (by decide))
      refine aw_iconst (v := 1) (by decide) dX0_soundAt_58 ?_
      exact aw_iret rfl (by decide) (by decide) dX0_soundAt_59 ⟨by first | rfl | (simp [tc_s7, wd_w_row, row_self, row_row, b1, b8]; done) | (simp_all [tc_s7, wd_w_row, row_self, row_row, b1, b8]; done), by first | rfl | (simp [tc_s7, wd_w_row, row_self, row_row, b1, b8]; done) | (simp_all [tc_s7, wd_w_row, row_self, row_row, b1, b8]; done)⟩
theorem ct_X0_ringCount_8 {ad : Nat → Nat → Nat → Nat} {o : wd_S}  : CT ad MX0_ringCount [.int 8] o (RT (some (.int 3)) o) := by
  refine CT.of (L := [some (.int 8), none]) rfl rfl (by decide) (Nat.le_of_ble_eq_true rfl) rfl ?_
  refine aw_iconst (v := 0) (by decide) dX0_ringCount_0 ?_
  refine aw_istore_n (L2 := [some (.int 8), some (.int 0)]) (by decide) rfl rfl dX0_ringCount_1 ?_
  refine aw_iload_n (x := 0) rfl dX0_ringCount_2 ?_
  refine aw_iconst (v := 3) (by decide) dX0_ringCount_3 ?_
  refine aw_icmp_ge (tgt := 23) (by decide) dX0_ringCount_4 (fun z => absurd z (by decide)) (fun _ => ?_)
  refine aw_iload_n (x := 8) rfl dX0_ringCount_7 ?_
  refine aw_iconst (v := 1) (by decide) dX0_ringCount_8 ?_
  refine aw_iaddz (z := 9) (by decide) dX0_ringCount_9 ?_
  refine aw_iload_n (x := 0) rfl dX0_ringCount_10 ?_
  refine aw_iconst (v := 1) (by decide) dX0_ringCount_11 ?_
  refine aw_iaddz (z := 1) (by decide) dX0_ringCount_12 ?_
  refine aw_ishrz (z := 4) (by decide) dX0_ringCount_13 ?_
  refine aw_if_eq (tgt := 23) (by decide) dX0_ringCount_14 (fun z => absurd z (by decide)) (fun _ => ?_)
  refine aw_iinc (x := 0) (v := 1) (L2 := [some (.int 8), some (.int 1)]) rfl (by decide) (by decide) rfl rfl dX0_ringCount_17 ?_
  refine aw_goto (tgt := 2) (by decide) dX0_ringCount_20 ?_
  refine aw_iload_n (x := 1) rfl dX0_ringCount_2 ?_
  refine aw_iconst (v := 3) (by decide) dX0_ringCount_3 ?_
  refine aw_icmp_ge (tgt := 23) (by decide) dX0_ringCount_4 (fun z => absurd z (by decide)) (fun _ => ?_)
  refine aw_iload_n (x := 8) rfl dX0_ringCount_7 ?_
  refine aw_iconst (v := 1) (by decide) dX0_ringCount_8 ?_
  refine aw_iaddz (z := 9) (by decide) dX0_ringCount_9 ?_
  refine aw_iload_n (x := 1) rfl dX0_ringCount_10 ?_
  refine aw_iconst (v := 1) (by decide) dX0_ringCount_11 ?_
  refine aw_iaddz (z := 2) (by decide) dX0_ringCount_12 ?_
  refine aw_ishrz (z := 2) (by decide) dX0_ringCount_13 ?_
  refine aw_if_eq (tgt := 23) (by decide) dX0_ringCount_14 (fun z => absurd z (by decide)) (fun _ => ?_)
  refine aw_iinc (x := 1) (v := 2) (L2 := [some (.int 8), some (.int 2)]) rfl (by decide) (by decide) rfl rfl dX0_ringCount_17 ?_
  refine aw_goto (tgt := 2) (by decide) dX0_ringCount_20 ?_
  refine aw_iload_n (x := 2) rfl dX0_ringCount_2 ?_
  refine aw_iconst (v := 3) (by decide) dX0_ringCount_3 ?_
  refine aw_icmp_ge (tgt := 23) (by decide) dX0_ringCount_4 (fun z => absurd z (by decide)) (fun _ => ?_)
  refine aw_iload_n (x := 8) rfl dX0_ringCount_7 ?_
  refine aw_iconst (v := 1) (by decide) dX0_ringCount_8 ?_
  refine aw_iaddz (z := 9) (by decide) dX0_ringCount_9 ?_
  refine aw_iload_n (x := 2) rfl dX0_ringCount_10 ?_
  refine aw_iconst (v := 1) (by decide) dX0_ringCount_11 ?_
  refine aw_iaddz (z := 3) (by decide) dX0_ringCount_12 ?_
  refine aw_ishrz (z := 1) (by decide) dX0_ringCount_13 ?_
  refine aw_if_eq (tgt := 23) (by decide) dX0_ringCount_14 (fun z => absurd z (by decide)) (fun _ => ?_)
  refine aw_iinc (x := 2) (v := 3) (L2 := [some (.int 8), some (.int 3)]) rfl (by decide) (by decide) rfl rfl dX0_ringCount_17 ?_
  refine aw_goto (tgt := 2) (by decide) dX0_ringCount_20 ?_
  refine aw_iload_n (x := 3) rfl dX0_ringCount_2 ?_
  refine aw_iconst (v := 3) (by decide) dX0_ringCount_3 ?_
  refine aw_icmp_ge (tgt := 23) (by decide) dX0_ringCount_4 (fun _ => ?_) (fun z => absurd z (by decide))
  refine aw_iload_n (x := 3) rfl dX0_ringCount_23 ?_
  exact aw_iret rfl (by decide) (by decide) dX0_ringCount_24 ⟨by first | rfl | (simp [wd_w_row, row_self, row_row]; done) | (simp_all [wd_w_row, row_self, row_row]; done), by first | rfl | (simp [wd_w_row, row_self, row_row]; done) | (simp_all [wd_w_row, row_self, row_row]; done)⟩
theorem ct_X0_isLong_8_0 {ad : Nat → Nat → Nat → Nat} {o : wd_S}  : CT ad MX0_isLong [.int 8, .int 0] o (RT (some (.int 0)) o) := by
  refine CT.of (L := [some (.int 8), some (.int 0), none]) rfl rfl (by decide) (Nat.le_of_ble_eq_true rfl) rfl ?_
  refine aw_iload_n (x := 8) rfl dX0_isLong_0 ?_
  refine aw_rS (v := some (.int 3)) (o2 := o) ct_X0_ringCount_8 (mm_fit_of cbX0_ringCount (by decide) (by decide)) wq303 wq304 rfl rfl (Nat.le_of_ble_eq_true rfl) (by decide) (by decide) rfl dX0_isLong_1 ?_
  refine aw_iconst (v := 1) (by decide) dX0_isLong_4 ?_
  refine aw_isubz (z := 2) (by decide) dX0_isLong_5 ?_
  refine aw_iload_n (x := 0) rfl dX0_isLong_6 ?_
  refine aw_isubz (z := 2) (by decide) dX0_isLong_7 ?_
  refine aw_istore_n (L2 := [some (.int 8), some (.int 0), some (.int 2)]) (by decide) rfl rfl dX0_isLong_8 ?_
  refine aw_iload_n (x := 8) rfl dX0_isLong_9 ?_
  refine aw_iconst (v := 1) (by decide) dX0_isLong_10 ?_
  refine aw_iaddz (z := 9) (by decide) dX0_isLong_11 ?_
  refine aw_iload_n (x := 2) rfl dX0_isLong_12 ?_
  refine aw_ishrz (z := 2) (by decide) dX0_isLong_13 ?_
  refine aw_iconst (v := 1) (by decide) dX0_isLong_14 ?_
  refine aw_iandz (z := 0) (by decide) dX0_isLong_15 ?_
  refine aw_iconst (v := 1) (by decide) dX0_isLong_16 ?_
  refine aw_icmp_ne (tgt := 24) (by decide) dX0_isLong_17 (fun _ => ?_) (fun z => absurd z (by decide))
  refine aw_iconst (v := 0) (by decide) dX0_isLong_24 ?_
  exact aw_zret rfl (by decide) (by decide) (by decide) dX0_isLong_25 ⟨by first | rfl | (simp [wd_w_row, row_self, row_row]; done) | (simp_all [wd_w_row, row_self, row_row]; done), by first | rfl | (simp [wd_w_row, row_self, row_row]; done) | (simp_all [wd_w_row, row_self, row_row]; done)⟩
theorem ct_X0_isLong_8_1 {ad : Nat → Nat → Nat → Nat} {o : wd_S}  : CT ad MX0_isLong [.int 8, .int 1] o (RT (some (.int 0)) o) := by
  refine CT.of (L := [some (.int 8), some (.int 1), none]) rfl rfl (by decide) (Nat.le_of_ble_eq_true rfl) rfl ?_
  refine aw_iload_n (x := 8) rfl dX0_isLong_0 ?_
  refine aw_rS (v := some (.int 3)) (o2 := o) ct_X0_ringCount_8 (mm_fit_of cbX0_ringCount (by decide) (by decide)) wq303 wq304 rfl rfl (Nat.le_of_ble_eq_true rfl) (by decide) (by decide) rfl dX0_isLong_1 ?_
  refine aw_iconst (v := 1) (by decide) dX0_isLong_4 ?_
  refine aw_isubz (z := 2) (by decide) dX0_isLong_5 ?_
  refine aw_iload_n (x := 1) rfl dX0_isLong_6 ?_
  refine aw_isubz (z := 1) (by decide) dX0_isLong_7 ?_
  refine aw_istore_n (L2 := [some (.int 8), some (.int 1), some (.int 1)]) (by decide) rfl rfl dX0_isLong_8 ?_
  refine aw_iload_n (x := 8) rfl dX0_isLong_9 ?_
  refine aw_iconst (v := 1) (by decide) dX0_isLong_10 ?_
  refine aw_iaddz (z := 9) (by decide) dX0_isLong_11 ?_
  refine aw_iload_n (x := 1) rfl dX0_isLong_12 ?_
  refine aw_ishrz (z := 4) (by decide) dX0_isLong_13 ?_
  refine aw_iconst (v := 1) (by decide) dX0_isLong_14 ?_
  refine aw_iandz (z := 0) (by decide) dX0_isLong_15 ?_
  refine aw_iconst (v := 1) (by decide) dX0_isLong_16 ?_
  refine aw_icmp_ne (tgt := 24) (by decide) dX0_isLong_17 (fun _ => ?_) (fun z => absurd z (by decide))
  refine aw_iconst (v := 0) (by decide) dX0_isLong_24 ?_
  exact aw_zret rfl (by decide) (by decide) (by decide) dX0_isLong_25 ⟨by first | rfl | (simp [wd_w_row, row_self, row_row]; done) | (simp_all [wd_w_row, row_self, row_row]; done), by first | rfl | (simp [wd_w_row, row_self, row_row]; done) | (simp_all [wd_w_row, row_self, row_row]; done)⟩
theorem ct_X0_isLong_8_2 {ad : Nat → Nat → Nat → Nat} {o : wd_S}  : CT ad MX0_isLong [.int 8, .int 2] o (RT (some (.int 1)) o) := by
  refine CT.of (L := [some (.int 8), some (.int 2), none]) rfl rfl (by decide) (Nat.le_of_ble_eq_true rfl) rfl ?_
  refine aw_iload_n (x := 8) rfl dX0_isLong_0 ?_
  refine aw_rS (v := some (.int 3)) (o2 := o) ct_X0_ringCount_8 (mm_fit_of cbX0_ringCount (by decide) (by decide)) wq303 wq304 rfl rfl (Nat.le_of_ble_eq_true rfl) (by decide) (by decide) rfl dX0_isLong_1 ?_
  refine aw_iconst (v := 1) (by decide) dX0_isLong_4 ?_
  refine aw_isubz (z := 2) (by decide) dX0_isLong_5 ?_
  refine aw_iload_n (x := 2) rfl dX0_isLong_6 ?_
  refine aw_isubz (z := 0) (by decide) dX0_isLong_7 ?_
  refine aw_istore_n (L2 := [some (.int 8), some (.int 2), some (.int 0)]) (by decide) rfl rfl dX0_isLong_8 ?_
  refine aw_iload_n (x := 8) rfl dX0_isLong_9 ?_
  refine aw_iconst (v := 1) (by decide) dX0_isLong_10 ?_
  refine aw_iaddz (z := 9) (by decide) dX0_isLong_11 ?_
  refine aw_iload_n (x := 0) rfl dX0_isLong_12 ?_
  refine aw_ishrz (z := 9) (by decide) dX0_isLong_13 ?_
  refine aw_iconst (v := 1) (by decide) dX0_isLong_14 ?_
  refine aw_iandz (z := 1) (by decide) dX0_isLong_15 ?_
  refine aw_iconst (v := 1) (by decide) dX0_isLong_16 ?_
  refine aw_icmp_ne (tgt := 24) (by decide) dX0_isLong_17 (fun z => absurd z (by decide)) (fun _ => ?_)
  refine aw_iconst (v := 1) (by decide) dX0_isLong_20 ?_
  refine aw_goto (tgt := 25) (by decide) dX0_isLong_21 ?_
  exact aw_zret rfl (by decide) (by decide) (by decide) dX0_isLong_25 ⟨by first | rfl | (simp [wd_w_row, row_self, row_row]; done) | (simp_all [wd_w_row, row_self, row_row]; done), by first | rfl | (simp [wd_w_row, row_self, row_row]; done) | (simp_all [wd_w_row, row_self, row_row]; done)⟩
theorem ct_X0_lengthOf_8 {ad : Nat → Nat → Nat → Nat} {o : wd_S}  : CT ad MX0_lengthOf [.int 8] o (RT (some (.int 11)) o) := by
  refine CT.of (L := [some (.int 8), none, none, none]) rfl rfl (by decide) (Nat.le_of_ble_eq_true rfl) rfl ?_
  refine aw_iload_n (x := 8) rfl dX0_lengthOf_0 ?_
  refine aw_rS (v := some (.int 3)) (o2 := o) ct_X0_ringCount_8 (mm_fit_of cbX0_ringCount (by decide) (by decide)) wq303 wq304 rfl rfl (Nat.le_of_ble_eq_true rfl) (by decide) (by decide) rfl dX0_lengthOf_1 ?_
  refine aw_istore_n (L2 := [some (.int 8), some (.int 3), none, none]) (by decide) rfl rfl dX0_lengthOf_4 ?_
  refine aw_iload_n (x := 3) rfl dX0_lengthOf_5 ?_
  refine aw_iconst (v := 1) (by decide) dX0_lengthOf_6 ?_
  refine aw_isubz (z := 2) (by decide) dX0_lengthOf_7 ?_
  refine aw_iconst (v := 1) (by decide) dX0_lengthOf_8 ?_
  refine aw_imulz (z := 2) (by decide) dX0_lengthOf_9 ?_
  refine aw_iconst (v := 4) (by decide) dX0_lengthOf_10 ?_
  refine aw_iaddz (z := 6) (by decide) dX0_lengthOf_11 ?_
  refine aw_istore_n (L2 := [some (.int 8), some (.int 3), some (.int 6), none]) (by decide) rfl rfl dX0_lengthOf_12 ?_
  refine aw_iconst (v := 0) (by decide) dX0_lengthOf_13 ?_
  refine aw_istore_n (L2 := [some (.int 8), some (.int 3), some (.int 6), some (.int 0)]) (by decide) rfl rfl dX0_lengthOf_14 ?_
  refine aw_iload_n (x := 0) rfl dX0_lengthOf_15 ?_
  refine aw_iload_n (x := 3) rfl dX0_lengthOf_16 ?_
  refine aw_icmp_ge (tgt := 45) (by decide) dX0_lengthOf_17 (fun z => absurd z (by decide)) (fun _ => ?_)
  refine aw_iload_n (x := 6) rfl dX0_lengthOf_20 ?_
  refine aw_iload_n (x := 8) rfl dX0_lengthOf_21 ?_
  refine aw_iconst (v := 1) (by decide) dX0_lengthOf_22 ?_
  refine aw_iaddz (z := 9) (by decide) dX0_lengthOf_23 ?_
  refine aw_iload_n (x := 0) rfl dX0_lengthOf_24 ?_
  refine aw_ishrz (z := 9) (by decide) dX0_lengthOf_25 ?_
  refine aw_iconst (v := 1) (by decide) dX0_lengthOf_26 ?_
  refine aw_iandz (z := 1) (by decide) dX0_lengthOf_27 ?_
  refine aw_iconst (v := 1) (by decide) dX0_lengthOf_28 ?_
  refine aw_icmp_ne (tgt := 36) (by decide) dX0_lengthOf_29 (fun z => absurd z (by decide)) (fun _ => ?_)
  refine aw_iconst (v := 3) (by decide) dX0_lengthOf_32 ?_
  refine aw_goto (tgt := 37) (by decide) dX0_lengthOf_33 ?_
  refine aw_iaddz (z := 9) (by decide) dX0_lengthOf_37 ?_
  refine aw_istore_n (L2 := [some (.int 8), some (.int 3), some (.int 9), some (.int 0)]) (by decide) rfl rfl dX0_lengthOf_38 ?_
  refine aw_iinc (x := 0) (v := 1) (L2 := [some (.int 8), some (.int 3), some (.int 9), some (.int 1)]) rfl (by decide) (by decide) rfl rfl dX0_lengthOf_39 ?_
  refine aw_goto (tgt := 15) (by decide) dX0_lengthOf_42 ?_
  refine aw_iload_n (x := 1) rfl dX0_lengthOf_15 ?_
  refine aw_iload_n (x := 3) rfl dX0_lengthOf_16 ?_
  refine aw_icmp_ge (tgt := 45) (by decide) dX0_lengthOf_17 (fun z => absurd z (by decide)) (fun _ => ?_)
  refine aw_iload_n (x := 9) rfl dX0_lengthOf_20 ?_
  refine aw_iload_n (x := 8) rfl dX0_lengthOf_21 ?_
  refine aw_iconst (v := 1) (by decide) dX0_lengthOf_22 ?_
  refine aw_iaddz (z := 9) (by decide) dX0_lengthOf_23 ?_
  refine aw_iload_n (x := 1) rfl dX0_lengthOf_24 ?_
  refine aw_ishrz (z := 4) (by decide) dX0_lengthOf_25 ?_
  refine aw_iconst (v := 1) (by decide) dX0_lengthOf_26 ?_
  refine aw_iandz (z := 0) (by decide) dX0_lengthOf_27 ?_
  refine aw_iconst (v := 1) (by decide) dX0_lengthOf_28 ?_
  refine aw_icmp_ne (tgt := 36) (by decide) dX0_lengthOf_29 (fun _ => ?_) (fun z => absurd z (by decide))
  refine aw_iconst (v := 1) (by decide) dX0_lengthOf_36 ?_
  refine aw_iaddz (z := 10) (by decide) dX0_lengthOf_37 ?_
  refine aw_istore_n (L2 := [some (.int 8), some (.int 3), some (.int 10), some (.int 1)]) (by decide) rfl rfl dX0_lengthOf_38 ?_
  refine aw_iinc (x := 1) (v := 2) (L2 := [some (.int 8), some (.int 3), some (.int 10), some (.int 2)]) rfl (by decide) (by decide) rfl rfl dX0_lengthOf_39 ?_
  refine aw_goto (tgt := 15) (by decide) dX0_lengthOf_42 ?_
  refine aw_iload_n (x := 2) rfl dX0_lengthOf_15 ?_
  refine aw_iload_n (x := 3) rfl dX0_lengthOf_16 ?_
  refine aw_icmp_ge (tgt := 45) (by decide) dX0_lengthOf_17 (fun z => absurd z (by decide)) (fun _ => ?_)
  refine aw_iload_n (x := 10) rfl dX0_lengthOf_20 ?_
  refine aw_iload_n (x := 8) rfl dX0_lengthOf_21 ?_
  refine aw_iconst (v := 1) (by decide) dX0_lengthOf_22 ?_
  refine aw_iaddz (z := 9) (by decide) dX0_lengthOf_23 ?_
  refine aw_iload_n (x := 2) rfl dX0_lengthOf_24 ?_
  refine aw_ishrz (z := 2) (by decide) dX0_lengthOf_25 ?_
  refine aw_iconst (v := 1) (by decide) dX0_lengthOf_26 ?_
  refine aw_iandz (z := 0) (by decide) dX0_lengthOf_27 ?_
  refine aw_iconst (v := 1) (by decide) dX0_lengthOf_28 ?_
  refine aw_icmp_ne (tgt := 36) (by decide) dX0_lengthOf_29 (fun _ => ?_) (fun z => absurd z (by decide))
  refine aw_iconst (v := 1) (by decide) dX0_lengthOf_36 ?_
  refine aw_iaddz (z := 11) (by decide) dX0_lengthOf_37 ?_
  refine aw_istore_n (L2 := [some (.int 8), some (.int 3), some (.int 11), some (.int 2)]) (by decide) rfl rfl dX0_lengthOf_38 ?_
  refine aw_iinc (x := 2) (v := 3) (L2 := [some (.int 8), some (.int 3), some (.int 11), some (.int 3)]) rfl (by decide) (by decide) rfl rfl dX0_lengthOf_39 ?_
  refine aw_goto (tgt := 15) (by decide) dX0_lengthOf_42 ?_
  refine aw_iload_n (x := 3) rfl dX0_lengthOf_15 ?_
  refine aw_iload_n (x := 3) rfl dX0_lengthOf_16 ?_
  refine aw_icmp_ge (tgt := 45) (by decide) dX0_lengthOf_17 (fun _ => ?_) (fun z => absurd z (by decide))
  refine aw_iload_n (x := 11) rfl dX0_lengthOf_45 ?_
  exact aw_iret rfl (by decide) (by decide) dX0_lengthOf_46 ⟨by first | rfl | (simp [wd_w_row, row_self, row_row]; done) | (simp_all [wd_w_row, row_self, row_row]; done), by first | rfl | (simp [wd_w_row, row_self, row_row]; done) | (simp_all [wd_w_row, row_self, row_row]; done)⟩
theorem ct_X0_soundAt_8 {ad : Nat → Nat → Nat → Nat} {o : wd_S} {t : Int32} : CT ad MX0_soundAt [.int 8, .int t] o (RT (some (.int (tc_s8 t))) o) := by
  refine CT.of (L := [some (.int 8), some (.int t), none, none, none, none, none]) rfl rfl (by decide) (Nat.le_of_ble_eq_true rfl) rfl ?_
  refine aw_iload_n (x := 8) rfl dX0_soundAt_0 ?_
  refine aw_rS (v := some (.int 3)) (o2 := o) ct_X0_ringCount_8 (mm_fit_of cbX0_ringCount (by decide) (by decide)) wq303 wq304 rfl rfl (Nat.le_of_ble_eq_true rfl) (by decide) (by decide) rfl dX0_soundAt_1 ?_
  refine aw_istore_n (L2 := [some (.int 8), some (.int t), some (.int 3), none, none, none, none]) (by decide) rfl rfl dX0_soundAt_4 ?_
  refine aw_iconst (v := 0) (by decide) dX0_soundAt_5 ?_
  refine aw_istore_n (L2 := [some (.int 8), some (.int t), some (.int 3), some (.int 0), none, none, none]) (by decide) rfl rfl dX0_soundAt_6 ?_
  refine aw_iconst (v := 0) (by decide) dX0_soundAt_7 ?_
  refine aw_istore (L2 := [some (.int 8), some (.int t), some (.int 3), some (.int 0), some (.int 0), none, none]) (by decide) rfl rfl dX0_soundAt_8 ?_
  refine aw_iload (x := 0) rfl dX0_soundAt_10 ?_
  refine aw_iload_n (x := 3) rfl dX0_soundAt_12 ?_
  refine aw_icmp_ge (tgt := 71) (by decide) dX0_soundAt_13 (fun z => absurd z (by decide)) (fun _ => ?_)
  refine aw_iload_n (x := 8) rfl dX0_soundAt_16 ?_
  refine aw_iload (x := 0) rfl dX0_soundAt_17 ?_
  refine aw_rS (v := some (.int 0)) (o2 := o) ct_X0_isLong_8_0 (mm_fit_of cbX0_isLong (by decide) (by decide)) wq309 wq310 rfl rfl (Nat.le_of_ble_eq_true rfl) (by decide) (by decide) rfl dX0_soundAt_19 ?_
  refine aw_istore (L2 := [some (.int 8), some (.int t), some (.int 3), some (.int 0), some (.int 0), some (.int 0), none]) (by decide) rfl rfl dX0_soundAt_22 ?_
  refine aw_iload_n (x := 0) rfl dX0_soundAt_24 ?_
  refine aw_iload (x := 0) rfl dX0_soundAt_25 ?_
  refine aw_if_eq (tgt := 34) (by decide) dX0_soundAt_27 (fun _ => ?_) (fun z => absurd z (by decide))
  refine aw_iconst (v := 1) (by decide) dX0_soundAt_34 ?_
  refine aw_iaddz (z := 1) (by decide) dX0_soundAt_35 ?_
  refine aw_istore (L2 := [some (.int 8), some (.int t), some (.int 3), some (.int 0), some (.int 0), some (.int 0), some (.int 1)]) (by decide) rfl rfl dX0_soundAt_36 ?_
  refine aw_iload_n (x := t) rfl dX0_soundAt_38 ?_
  refine aw_iload_n (x := 0) rfl dX0_soundAt_39 ?_
  refine aw_icmp_lt (tgt := 60) (by decide) dX0_soundAt_40 (fun b1 => ?_) (fun b1 => ?_)
  · skip
    refine aw_iload (x := 1) rfl dX0_soundAt_60 ?_
    refine aw_iconst (v := 1) (by decide) dX0_soundAt_62 ?_
    refine aw_iaddz (z := 2) (by decide) dX0_soundAt_63 ?_
    refine aw_istore_n (L2 := [some (.int 8), some (.int t), some (.int 3), some (.int 2), some (.int 0), some (.int 0), some (.int 1)]) (by decide) rfl rfl dX0_soundAt_64 ?_
    refine aw_iinc (x := 0) (v := 1) (L2 := [some (.int 8), some (.int t), some (.int 3), some (.int 2), some (.int 1), some (.int 0), some (.int 1)]) rfl (by decide) (by decide) rfl rfl dX0_soundAt_65 ?_
    refine aw_goto (tgt := 10) (by decide) dX0_soundAt_68 ?_
    refine aw_iload (x := 1) rfl dX0_soundAt_10 ?_
    refine aw_iload_n (x := 3) rfl dX0_soundAt_12 ?_
    refine aw_icmp_ge (tgt := 71) (by decide) dX0_soundAt_13 (fun z => absurd z (by decide)) (fun _ => ?_)
    refine aw_iload_n (x := 8) rfl dX0_soundAt_16 ?_
    refine aw_iload (x := 1) rfl dX0_soundAt_17 ?_
    refine aw_rS (v := some (.int 0)) (o2 := o) ct_X0_isLong_8_1 (mm_fit_of cbX0_isLong (by decide) (by decide)) wq309 wq310 rfl rfl (Nat.le_of_ble_eq_true rfl) (by decide) (by decide) rfl dX0_soundAt_19 ?_
    refine aw_istore (L2 := [some (.int 8), some (.int t), some (.int 3), some (.int 2), some (.int 1), some (.int 0), some (.int 1)]) (by decide) rfl rfl dX0_soundAt_22 ?_
    refine aw_iload_n (x := 2) rfl dX0_soundAt_24 ?_
    refine aw_iload (x := 0) rfl dX0_soundAt_25 ?_
    refine aw_if_eq (tgt := 34) (by decide) dX0_soundAt_27 (fun _ => ?_) (fun z => absurd z (by decide))
    refine aw_iconst (v := 1) (by decide) dX0_soundAt_34 ?_
    refine aw_iaddz (z := 3) (by decide) dX0_soundAt_35 ?_
    refine aw_istore (L2 := [some (.int 8), some (.int t), some (.int 3), some (.int 2), some (.int 1), some (.int 0), some (.int 3)]) (by decide) rfl rfl dX0_soundAt_36 ?_
    refine aw_iload_n (x := t) rfl dX0_soundAt_38 ?_
    refine aw_iload_n (x := 2) rfl dX0_soundAt_39 ?_
    refine aw_icmp_lt (tgt := 60) (by decide) dX0_soundAt_40 (fun b2 => ?_) (fun b2 => ?_)
    · skip
      refine aw_iload (x := 3) rfl dX0_soundAt_60 ?_
      refine aw_iconst (v := 1) (by decide) dX0_soundAt_62 ?_
      refine aw_iaddz (z := 4) (by decide) dX0_soundAt_63 ?_
      refine aw_istore_n (L2 := [some (.int 8), some (.int t), some (.int 3), some (.int 4), some (.int 1), some (.int 0), some (.int 3)]) (by decide) rfl rfl dX0_soundAt_64 ?_
      refine aw_iinc (x := 1) (v := 2) (L2 := [some (.int 8), some (.int t), some (.int 3), some (.int 4), some (.int 2), some (.int 0), some (.int 3)]) rfl (by decide) (by decide) rfl rfl dX0_soundAt_65 ?_
      refine aw_goto (tgt := 10) (by decide) dX0_soundAt_68 ?_
      refine aw_iload (x := 2) rfl dX0_soundAt_10 ?_
      refine aw_iload_n (x := 3) rfl dX0_soundAt_12 ?_
      refine aw_icmp_ge (tgt := 71) (by decide) dX0_soundAt_13 (fun z => absurd z (by decide)) (fun _ => ?_)
      refine aw_iload_n (x := 8) rfl dX0_soundAt_16 ?_
      refine aw_iload (x := 2) rfl dX0_soundAt_17 ?_
      refine aw_rS (v := some (.int 1)) (o2 := o) ct_X0_isLong_8_2 (mm_fit_of cbX0_isLong (by decide) (by decide)) wq309 wq310 rfl rfl (Nat.le_of_ble_eq_true rfl) (by decide) (by decide) rfl dX0_soundAt_19 ?_
      refine aw_istore (L2 := [some (.int 8), some (.int t), some (.int 3), some (.int 4), some (.int 2), some (.int 1), some (.int 3)]) (by decide) rfl rfl dX0_soundAt_22 ?_
      refine aw_iload_n (x := 4) rfl dX0_soundAt_24 ?_
      refine aw_iload (x := 1) rfl dX0_soundAt_25 ?_
      refine aw_if_eq (tgt := 34) (by decide) dX0_soundAt_27 (fun z => absurd z (by decide)) (fun _ => ?_)
      refine aw_iconst (v := 3) (by decide) dX0_soundAt_30 ?_
      refine aw_goto (tgt := 35) (by decide) dX0_soundAt_31 ?_
      refine aw_iaddz (z := 7) (by decide) dX0_soundAt_35 ?_
      refine aw_istore (L2 := [some (.int 8), some (.int t), some (.int 3), some (.int 4), some (.int 2), some (.int 1), some (.int 7)]) (by decide) rfl rfl dX0_soundAt_36 ?_
      refine aw_iload_n (x := t) rfl dX0_soundAt_38 ?_
      refine aw_iload_n (x := 4) rfl dX0_soundAt_39 ?_
      refine aw_icmp_lt (tgt := 60) (by decide) dX0_soundAt_40 (fun b3 => ?_) (fun b3 => ?_)
      · skip
        refine aw_iload (x := 7) rfl dX0_soundAt_60 ?_
        refine aw_iconst (v := 1) (by decide) dX0_soundAt_62 ?_
        refine aw_iaddz (z := 8) (by decide) dX0_soundAt_63 ?_
        refine aw_istore_n (L2 := [some (.int 8), some (.int t), some (.int 3), some (.int 8), some (.int 2), some (.int 1), some (.int 7)]) (by decide) rfl rfl dX0_soundAt_64 ?_
        refine aw_iinc (x := 2) (v := 3) (L2 := [some (.int 8), some (.int t), some (.int 3), some (.int 8), some (.int 3), some (.int 1), some (.int 7)]) rfl (by decide) (by decide) rfl rfl dX0_soundAt_65 ?_
        refine aw_goto (tgt := 10) (by decide) dX0_soundAt_68 ?_
        refine aw_iload (x := 3) rfl dX0_soundAt_10 ?_
        refine aw_iload_n (x := 3) rfl dX0_soundAt_12 ?_
        refine aw_icmp_ge (tgt := 71) (by decide) dX0_soundAt_13 (fun _ => ?_) (fun z => absurd z (by decide))
        refine aw_iconst (v := 0) (by decide) dX0_soundAt_71 ?_
        exact aw_iret rfl (by decide) (by decide) dX0_soundAt_72 ⟨by first | rfl | (simp [tc_s8, wd_w_row, row_self, row_row, b1, b2, b3]; done) | (simp_all [tc_s8, wd_w_row, row_self, row_row, b1, b2, b3]; done), by first | rfl | (simp [tc_s8, wd_w_row, row_self, row_row, b1, b2, b3]; done) | (simp_all [tc_s8, wd_w_row, row_self, row_row, b1, b2, b3]; done)⟩
      · skip
        refine aw_iload_n (x := t) rfl dX0_soundAt_43 ?_
        refine aw_iload (x := 7) rfl dX0_soundAt_44 ?_
        refine aw_icmp_ge (tgt := 60) (by decide) dX0_soundAt_46 (fun b4 => ?_) (fun b4 => ?_)
        · skip
          refine aw_iload (x := 7) rfl dX0_soundAt_60 ?_
          refine aw_iconst (v := 1) (by decide) dX0_soundAt_62 ?_
          refine aw_iaddz (z := 8) (by decide) dX0_soundAt_63 ?_
          refine aw_istore_n (L2 := [some (.int 8), some (.int t), some (.int 3), some (.int 8), some (.int 2), some (.int 1), some (.int 7)]) (by decide) rfl rfl dX0_soundAt_64 ?_
          refine aw_iinc (x := 2) (v := 3) (L2 := [some (.int 8), some (.int t), some (.int 3), some (.int 8), some (.int 3), some (.int 1), some (.int 7)]) rfl (by decide) (by decide) rfl rfl dX0_soundAt_65 ?_
          refine aw_goto (tgt := 10) (by decide) dX0_soundAt_68 ?_
          refine aw_iload (x := 3) rfl dX0_soundAt_10 ?_
          refine aw_iload_n (x := 3) rfl dX0_soundAt_12 ?_
          refine aw_icmp_ge (tgt := 71) (by decide) dX0_soundAt_13 (fun _ => ?_) (fun z => absurd z (by decide))
          refine aw_iconst (v := 0) (by decide) dX0_soundAt_71 ?_
          exact aw_iret rfl (by decide) (by decide) dX0_soundAt_72 ⟨by first | rfl | (simp [tc_s8, wd_w_row, row_self, row_row, b1, b2, b3, b4]; done) | (simp_all [tc_s8, wd_w_row, row_self, row_row, b1, b2, b3, b4]; done), by first | rfl | (simp [tc_s8, wd_w_row, row_self, row_row, b1, b2, b3, b4]; done) | (simp_all [tc_s8, wd_w_row, row_self, row_row, b1, b2, b3, b4]; done)⟩
        · skip
          refine aw_iload (x := 1) rfl dX0_soundAt_49 ?_
          refine aw_if_eq (tgt := 58) (by decide) dX0_soundAt_51 (fun z => absurd z (by decide)) (fun _ => ?_)
          refine aw_iconst (v := 2) (by decide) dX0_soundAt_54 ?_
          refine aw_goto (tgt := 59) (by decide) dX0_soundAt_55 ?_
          exact aw_iret rfl (by decide) (by decide) dX0_soundAt_59 ⟨by first | rfl | (simp [tc_s8, wd_w_row, row_self, row_row, b1, b2, b3, b4]; done) | (simp_all [tc_s8, wd_w_row, row_self, row_row, b1, b2, b3, b4]; done), by first | rfl | (simp [tc_s8, wd_w_row, row_self, row_row, b1, b2, b3, b4]; done) | (simp_all [tc_s8, wd_w_row, row_self, row_row, b1, b2, b3, b4]; done)⟩
    · skip
      refine aw_iload_n (x := t) rfl dX0_soundAt_43 ?_
      refine aw_iload (x := 3) rfl dX0_soundAt_44 ?_
      refine aw_icmp_ge (tgt := 60) (by decide) dX0_soundAt_46 (fun b5 => ?_) (fun b5 => ?_)
      · skip
        refine aw_iload (x := 3) rfl dX0_soundAt_60 ?_
        refine aw_iconst (v := 1) (by decide) dX0_soundAt_62 ?_
        refine aw_iaddz (z := 4) (by decide) dX0_soundAt_63 ?_
        refine aw_istore_n (L2 := [some (.int 8), some (.int t), some (.int 3), some (.int 4), some (.int 1), some (.int 0), some (.int 3)]) (by decide) rfl rfl dX0_soundAt_64 ?_
        refine aw_iinc (x := 1) (v := 2) (L2 := [some (.int 8), some (.int t), some (.int 3), some (.int 4), some (.int 2), some (.int 0), some (.int 3)]) rfl (by decide) (by decide) rfl rfl dX0_soundAt_65 ?_
        refine aw_goto (tgt := 10) (by decide) dX0_soundAt_68 ?_
        refine aw_iload (x := 2) rfl dX0_soundAt_10 ?_
        refine aw_iload_n (x := 3) rfl dX0_soundAt_12 ?_
        refine aw_icmp_ge (tgt := 71) (by decide) dX0_soundAt_13 (fun z => absurd z (by decide)) (fun _ => ?_)
        refine aw_iload_n (x := 8) rfl dX0_soundAt_16 ?_
        refine aw_iload (x := 2) rfl dX0_soundAt_17 ?_
        refine aw_rS (v := some (.int 1)) (o2 := o) ct_X0_isLong_8_2 (mm_fit_of cbX0_isLong (by decide) (by decide)) wq309 wq310 rfl rfl (Nat.le_of_ble_eq_true rfl) (by decide) (by decide) rfl dX0_soundAt_19 ?_
        refine aw_istore (L2 := [some (.int 8), some (.int t), some (.int 3), some (.int 4), some (.int 2), some (.int 1), some (.int 3)]) (by decide) rfl rfl dX0_soundAt_22 ?_
        refine aw_iload_n (x := 4) rfl dX0_soundAt_24 ?_
        refine aw_iload (x := 1) rfl dX0_soundAt_25 ?_
        refine aw_if_eq (tgt := 34) (by decide) dX0_soundAt_27 (fun z => absurd z (by decide)) (fun _ => ?_)
        refine aw_iconst (v := 3) (by decide) dX0_soundAt_30 ?_
        refine aw_goto (tgt := 35) (by decide) dX0_soundAt_31 ?_
        refine aw_iaddz (z := 7) (by decide) dX0_soundAt_35 ?_
        refine aw_istore (L2 := [some (.int 8), some (.int t), some (.int 3), some (.int 4), some (.int 2), some (.int 1), some (.int 7)]) (by decide) rfl rfl dX0_soundAt_36 ?_
        refine aw_iload_n (x := t) rfl dX0_soundAt_38 ?_
        refine aw_iload_n (x := 4) rfl dX0_soundAt_39 ?_
        refine aw_icmp_lt (tgt := 60) (by decide) dX0_soundAt_40 (fun b6 => ?_) (fun b6 => ?_)
        · skip
          refine aw_iload (x := 7) rfl dX0_soundAt_60 ?_
          refine aw_iconst (v := 1) (by decide) dX0_soundAt_62 ?_
          refine aw_iaddz (z := 8) (by decide) dX0_soundAt_63 ?_
          refine aw_istore_n (L2 := [some (.int 8), some (.int t), some (.int 3), some (.int 8), some (.int 2), some (.int 1), some (.int 7)]) (by decide) rfl rfl dX0_soundAt_64 ?_
          refine aw_iinc (x := 2) (v := 3) (L2 := [some (.int 8), some (.int t), some (.int 3), some (.int 8), some (.int 3), some (.int 1), some (.int 7)]) rfl (by decide) (by decide) rfl rfl dX0_soundAt_65 ?_
          refine aw_goto (tgt := 10) (by decide) dX0_soundAt_68 ?_
          refine aw_iload (x := 3) rfl dX0_soundAt_10 ?_
          refine aw_iload_n (x := 3) rfl dX0_soundAt_12 ?_
          refine aw_icmp_ge (tgt := 71) (by decide) dX0_soundAt_13 (fun _ => ?_) (fun z => absurd z (by decide))
          refine aw_iconst (v := 0) (by decide) dX0_soundAt_71 ?_
          exact aw_iret rfl (by decide) (by decide) dX0_soundAt_72 ⟨by first | rfl | (simp [tc_s8, wd_w_row, row_self, row_row, b1, b2, b5, b6]; done) | (simp_all [tc_s8, wd_w_row, row_self, row_row, b1, b2, b5, b6]; done), by first | rfl | (simp [tc_s8, wd_w_row, row_self, row_row, b1, b2, b5, b6]; done) | (simp_all [tc_s8, wd_w_row, row_self, row_row, b1, b2, b5, b6]; done)⟩
        · skip
          refine aw_iload_n (x := t) rfl dX0_soundAt_43 ?_
          refine aw_iload (x := 7) rfl dX0_soundAt_44 ?_
          refine aw_icmp_ge (tgt := 60) (by decide) dX0_soundAt_46 (fun b7 => ?_) (fun b7 => ?_)
          · skip
            refine aw_iload (x := 7) rfl dX0_soundAt_60 ?_
            refine aw_iconst (v := 1) (by decide) dX0_soundAt_62 ?_
            refine aw_iaddz (z := 8) (by decide) dX0_soundAt_63 ?_
            refine aw_istore_n (L2 := [some (.int 8), some (.int t), some (.int 3), some (.int 8), some (.int 2), some (.int 1), some (.int 7)]) (by decide) rfl rfl dX0_soundAt_64 ?_
            refine aw_iinc (x := 2) (v := 3) (L2 := [some (.int 8), some (.int t), some (.int 3), some (.int 8), some (.int 3), some (.int 1), some (.int 7)]) rfl (by decide) (by decide) rfl rfl dX0_soundAt_65 ?_
            refine aw_goto (tgt := 10) (by decide) dX0_soundAt_68 ?_
            refine aw_iload (x := 3) rfl dX0_soundAt_10 ?_
            refine aw_iload_n (x := 3) rfl dX0_soundAt_12 ?_
            refine aw_icmp_ge (tgt := 71) (by decide) dX0_soundAt_13 (fun _ => ?_) (fun z => absurd z (by decide))
            refine aw_iconst (v := 0) (by decide) dX0_soundAt_71 ?_
            exact aw_iret rfl (by decide) (by decide) dX0_soundAt_72 ⟨by first | rfl | (simp [tc_s8, wd_w_row, row_self, row_row, b1, b2, b5, b6, b7]; done) | (simp_all [tc_s8, wd_w_row, row_self, row_row, b1, b2, b5, b6, b7]; done), by first | rfl | (simp [tc_s8, wd_w_row, row_self, row_row, b1, b2, b5, b6, b7]; done) | (simp_all [tc_s8, wd_w_row, row_self, row_row, b1, b2, b5, b6, b7]; done)⟩
          · skip
            refine aw_iload (x := 1) rfl dX0_soundAt_49 ?_
            refine aw_if_eq (tgt := 58) (by decide) dX0_soundAt_51 (fun z => absurd z (by decide)) (fun _ => ?_)
            refine aw_iconst (v := 2) (by decide) dX0_soundAt_54 ?_
            refine aw_goto (tgt := 59) (by decide) dX0_soundAt_55 ?_
            exact aw_iret rfl (by decide) (by decide) dX0_soundAt_59 ⟨by first | rfl | (simp [tc_s8, wd_w_row, row_self, row_row, b1, b2, b5, b6, b7]; done) | (simp_all [tc_s8, wd_w_row, row_self, row_row, b1, b2, b5, b6, b7]; done), by first | rfl | (simp [tc_s8, wd_w_row, row_self, row_row, b1, b2, b5, b6, b7]; done) | (simp_all [tc_s8, wd_w_row, row_self, row_row, b1, b2, b5, b6, b7]; done)⟩
      · skip
        refine aw_iload (x := 0) rfl dX0_soundAt_49 ?_
        refine aw_if_eq (tgt := 58) (by decide) dX0_soundAt_51 (fun _ => ?_) (fun z => absurd z (by decide))
        refine aw_iconst (v := 1) (by decide) dX0_soundAt_58 ?_
        exact aw_iret rfl (by decide) (by decide) dX0_soundAt_59 ⟨by first | rfl | (simp [tc_s8, wd_w_row, row_self, row_row, b1, b2, b5]; done) | (simp_all [tc_s8, wd_w_row, row_self, row_row, b1, b2, b5]; done), by first | rfl | (simp [tc_s8, wd_w_row, row_self, row_row, b1, b2, b5]; done) | (simp_all [tc_s8, wd_w_row, row_self, row_row, b1, b2, b5]; done)⟩
  · skip
    refine aw_iload_n (x := t) rfl dX0_soundAt_43 ?_
    refine aw_iload (x := 1) rfl dX0_soundAt_44 ?_
    refine aw_icmp_ge (tgt := 60) (by decide) dX0_soundAt_46 (fun b8 => ?_) (fun b8 => ?_)
    · skip
      refine aw_iload (x := 1) rfl dX0_soundAt_60 ?_
      refine aw_iconst (v := 1) (by decide) dX0_soundAt_62 ?_
      refine aw_iaddz (z := 2) (by decide) dX0_soundAt_63 ?_
      refine aw_istore_n (L2 := [some (.int 8), some (.int t), some (.int 3), some (.int 2), some (.int 0), some (.int 0), some (.int 1)]) (by decide) rfl rfl dX0_soundAt_64 ?_
      refine aw_iinc (x := 0) (v := 1) (L2 := [some (.int 8), some (.int t), some (.int 3), some (.int 2), some (.int 1), some (.int 0), some (.int 1)]) rfl (by decide) (by decide) rfl rfl dX0_soundAt_65 ?_
      refine aw_goto (tgt := 10) (by decide) dX0_soundAt_68 ?_
      refine aw_iload (x := 1) rfl dX0_soundAt_10 ?_
      refine aw_iload_n (x := 3) rfl dX0_soundAt_12 ?_
      refine aw_icmp_ge (tgt := 71) (by decide) dX0_soundAt_13 (fun z => absurd z (by decide)) (fun _ => ?_)
      refine aw_iload_n (x := 8) rfl dX0_soundAt_16 ?_
      refine aw_iload (x := 1) rfl dX0_soundAt_17 ?_
      refine aw_rS (v := some (.int 0)) (o2 := o) ct_X0_isLong_8_1 (mm_fit_of cbX0_isLong (by decide) (by decide)) wq309 wq310 rfl rfl (Nat.le_of_ble_eq_true rfl) (by decide) (by decide) rfl dX0_soundAt_19 ?_
      refine aw_istore (L2 := [some (.int 8), some (.int t), some (.int 3), some (.int 2), some (.int 1), some (.int 0), some (.int 1)]) (by decide) rfl rfl dX0_soundAt_22 ?_
      refine aw_iload_n (x := 2) rfl dX0_soundAt_24 ?_
      refine aw_iload (x := 0) rfl dX0_soundAt_25 ?_
      refine aw_if_eq (tgt := 34) (by decide) dX0_soundAt_27 (fun _ => ?_) (fun z => absurd z (by decide))
      refine aw_iconst (v := 1) (by decide) dX0_soundAt_34 ?_
      refine aw_iaddz (z := 3) (by decide) dX0_soundAt_35 ?_
      refine aw_istore (L2 := [some (.int 8), some (.int t), some (.int 3), some (.int 2), some (.int 1), some (.int 0), some (.int 3)]) (by decide) rfl rfl dX0_soundAt_36 ?_
      refine aw_iload_n (x := t) rfl dX0_soundAt_38 ?_
      refine aw_iload_n (x := 2) rfl dX0_soundAt_39 ?_
      refine aw_icmp_lt (tgt := 60) (by decide) dX0_soundAt_40 (fun b9 => ?_) (fun b9 => ?_)
      · skip
        refine aw_iload (x := 3) rfl dX0_soundAt_60 ?_
        refine aw_iconst (v := 1) (by decide) dX0_soundAt_62 ?_
        refine aw_iaddz (z := 4) (by decide) dX0_soundAt_63 ?_
        refine aw_istore_n (L2 := [some (.int 8), some (.int t), some (.int 3), some (.int 4), some (.int 1), some (.int 0), some (.int 3)]) (by decide) rfl rfl dX0_soundAt_64 ?_
        refine aw_iinc (x := 1) (v := 2) (L2 := [some (.int 8), some (.int t), some (.int 3), some (.int 4), some (.int 2), some (.int 0), some (.int 3)]) rfl (by decide) (by decide) rfl rfl dX0_soundAt_65 ?_
        refine aw_goto (tgt := 10) (by decide) dX0_soundAt_68 ?_
        refine aw_iload (x := 2) rfl dX0_soundAt_10 ?_
        refine aw_iload_n (x := 3) rfl dX0_soundAt_12 ?_
        refine aw_icmp_ge (tgt := 71) (by decide) dX0_soundAt_13 (fun z => absurd z (by decide)) (fun _ => ?_)
        refine aw_iload_n (x := 8) rfl dX0_soundAt_16 ?_
        refine aw_iload (x := 2) rfl dX0_soundAt_17 ?_
        refine aw_rS (v := some (.int 1)) (o2 := o) ct_X0_isLong_8_2 (mm_fit_of cbX0_isLong (by decide) (by decide)) wq309 wq310 rfl rfl (Nat.le_of_ble_eq_true rfl) (by decide) (by decide) rfl dX0_soundAt_19 ?_
        refine aw_istore (L2 := [some (.int 8), some (.int t), some (.int 3), some (.int 4), some (.int 2), some (.int 1), some (.int 3)]) (by decide) rfl rfl dX0_soundAt_22 ?_
        refine aw_iload_n (x := 4) rfl dX0_soundAt_24 ?_
        refine aw_iload (x := 1) rfl dX0_soundAt_25 ?_
        refine aw_if_eq (tgt := 34) (by decide) dX0_soundAt_27 (fun z => absurd z (by decide)) (fun _ => ?_)
        refine aw_iconst (v := 3) (by decide) dX0_soundAt_30 ?_
        refine aw_goto (tgt := 35) (by decide) dX0_soundAt_31 ?_
        refine aw_iaddz (z := 7) (by decide) dX0_soundAt_35 ?_
        refine aw_istore (L2 := [some (.int 8), some (.int t), some (.int 3), some (.int 4), some (.int 2), some (.int 1), some (.int 7)]) (by decide) rfl rfl dX0_soundAt_36 ?_
        refine aw_iload_n (x := t) rfl dX0_soundAt_38 ?_
        refine aw_iload_n (x := 4) rfl dX0_soundAt_39 ?_
        refine aw_icmp_lt (tgt := 60) (by decide) dX0_soundAt_40 (fun b10 => ?_) (fun b10 => ?_)
        · skip
          refine aw_iload (x := 7) rfl dX0_soundAt_60 ?_
          refine aw_iconst (v := 1) (by decide) dX0_soundAt_62 ?_
          refine aw_iaddz (z := 8) (by decide) dX0_soundAt_63 ?_
          refine aw_istore_n (L2 := [some (.int 8), some (.int t), some (.int 3), some (.int 8), some (.int 2), some (.int 1), some (.int 7)]) (by decide) rfl rfl dX0_soundAt_64 ?_
          refine aw_iinc (x := 2) (v := 3) (L2 := [some (.int 8), some (.int t), some (.int 3), some (.int 8), some (.int 3), some (.int 1), some (.int 7)]) rfl (by decide) (by decide) rfl rfl dX0_soundAt_65 ?_
          refine aw_goto (tgt := 10) (by decide) dX0_soundAt_68 ?_
          refine aw_iload (x := 3) rfl dX0_soundAt_10 ?_
          refine aw_iload_n (x := 3) rfl dX0_soundAt_12 ?_
          refine aw_icmp_ge (tgt := 71) (by decide) dX0_soundAt_13 (fun _ => ?_) (fun z => absurd z (by decide))
          refine aw_iconst (v := 0) (by decide) dX0_soundAt_71 ?_
          exact aw_iret rfl (by decide) (by decide) dX0_soundAt_72 ⟨by first | rfl | (simp [tc_s8, wd_w_row, row_self, row_row, b1, b8, b9, b10]; done) | (simp_all [tc_s8, wd_w_row, row_self, row_row, b1, b8, b9, b10]; done), by first | rfl | (simp [tc_s8, wd_w_row, row_self, row_row, b1, b8, b9, b10]; done) | (simp_all [tc_s8, wd_w_row, row_self, row_row, b1, b8, b9, b10]; done)⟩
        · skip
          refine aw_iload_n (x := t) rfl dX0_soundAt_43 ?_
          refine aw_iload (x := 7) rfl dX0_soundAt_44 ?_
          refine aw_icmp_ge (tgt := 60) (by decide) dX0_soundAt_46 (fun b11 => ?_) (fun b11 => ?_)
          · skip
            refine aw_iload (x := 7) rfl dX0_soundAt_60 ?_
            refine aw_iconst (v := 1) (by decide) dX0_soundAt_62 ?_
            refine aw_iaddz (z := 8) (by decide) dX0_soundAt_63 ?_
            refine aw_istore_n (L2 := [some (.int 8), some (.int t), some (.int 3), some (.int 8), some (.int 2), some (.int 1), some (.int 7)]) (by decide) rfl rfl dX0_soundAt_64 ?_
            refine aw_iinc (x := 2) (v := 3) (L2 := [some (.int 8), some (.int t), some (.int 3), some (.int 8), some (.int 3), some (.int 1), some (.int 7)]) rfl (by decide) (by decide) rfl rfl dX0_soundAt_65 ?_
            refine aw_goto (tgt := 10) (by decide) dX0_soundAt_68 ?_
            refine aw_iload (x := 3) rfl dX0_soundAt_10 ?_
            refine aw_iload_n (x := 3) rfl dX0_soundAt_12 ?_
            refine aw_icmp_ge (tgt := 71) (by decide) dX0_soundAt_13 (fun _ => ?_) (fun z => absurd z (by decide))
            refine aw_iconst (v := 0) (by decide) dX0_soundAt_71 ?_
            exact aw_iret rfl (by decide) (by decide) dX0_soundAt_72 ⟨by first | rfl | (simp [tc_s8, wd_w_row, row_self, row_row, b1, b8, b9, b10, b11]; done) | (simp_all [tc_s8, wd_w_row, row_self, row_row, b1, b8, b9, b10, b11]; done), by first | rfl | (simp [tc_s8, wd_w_row, row_self, row_row, b1, b8, b9, b10, b11]; done) | (simp_all [tc_s8, wd_w_row, row_self, row_row, b1, b8, b9, b10, b11]; done)⟩
          · skip
            refine aw_iload (x := 1) rfl dX0_soundAt_49 ?_
            refine aw_if_eq (tgt := 58) (by decide) dX0_soundAt_51 (fun z => absurd z (by decide)) (fun _ => ?_)
            refine aw_iconst (v := 2) (by decide) dX0_soundAt_54 ?_
            refine aw_goto (tgt := 59) (by decide) dX0_soundAt_55 ?_
            exact aw_iret rfl (by decide) (by decide) dX0_soundAt_59 ⟨by first | rfl | (simp [tc_s8, wd_w_row, row_self, row_row, b1, b8, b9, b10, b11]; done) | (simp_all [tc_s8, wd_w_row, row_self, row_row, b1, b8, b9, b10, b11]; done), by first | rfl | (simp [tc_s8, wd_w_row, row_self, row_row, b1, b8, b9, b10, b11]; done) | (simp_all [tc_s8, wd_w_row, row_self, row_row, b1, b8, b9, b10, b11]; done)⟩
      · skip
        refine aw_iload_n (x := t) rfl dX0_soundAt_43 ?_
        refine aw_iload (x := 3) rfl dX0_soundAt_44 ?_
        refine aw_icmp_ge (tgt := 60) (by decide) dX0_soundAt_46 (fun b12 => ?_) (fun b12 => ?_)
        · skip
          refine aw_iload (x := 3) rfl dX0_soundAt_60 ?_
          refine aw_iconst (v := 1) (by decide) dX0_soundAt_62 ?_
          refine aw_iaddz (z := 4) (by decide) dX0_soundAt_63 ?_
          refine aw_istore_n (L2 := [some (.int 8), some (.int t), some (.int 3), some (.int 4), some (.int 1), some (.int 0), some (.int 3)]) (by decide) rfl rfl dX0_soundAt_64 ?_
          refine aw_iinc (x := 1) (v := 2) (L2 := [some (.int 8), some (.int t), some (.int 3), some (.int 4), some (.int 2), some (.int 0), some (.int 3)]) rfl (by decide) (by decide) rfl rfl dX0_soundAt_65 ?_
          refine aw_goto (tgt := 10) (by decide) dX0_soundAt_68 ?_
          refine aw_iload (x := 2) rfl dX0_soundAt_10 ?_
          refine aw_iload_n (x := 3) rfl dX0_soundAt_12 ?_
          refine aw_icmp_ge (tgt := 71) (by decide) dX0_soundAt_13 (fun z => absurd z (by decide)) (fun _ => ?_)
          refine aw_iload_n (x := 8) rfl dX0_soundAt_16 ?_
          refine aw_iload (x := 2) rfl dX0_soundAt_17 ?_
          refine aw_rS (v := some (.int 1)) (o2 := o) ct_X0_isLong_8_2 (mm_fit_of cbX0_isLong (by decide) (by decide)) wq309 wq310 rfl rfl (Nat.le_of_ble_eq_true rfl) (by decide) (by decide) rfl dX0_soundAt_19 ?_
          refine aw_istore (L2 := [some (.int 8), some (.int t), some (.int 3), some (.int 4), some (.int 2), some (.int 1), some (.int 3)]) (by decide) rfl rfl dX0_soundAt_22 ?_
          refine aw_iload_n (x := 4) rfl dX0_soundAt_24 ?_
          refine aw_iload (x := 1) rfl dX0_soundAt_25 ?_
          refine aw_if_eq (tgt := 34) (by decide) dX0_soundAt_27 (fun z => absurd z (by decide)) (fun _ => ?_)
          refine aw_iconst (v := 3) (by decide) dX0_soundAt_30 ?_
          refine aw_goto (tgt := 35) (by decide) dX0_soundAt_31 ?_
          refine aw_iaddz (z := 7) (by decide) dX0_soundAt_35 ?_
          refine aw_istore (L2 := [some (.int 8), some (.int t), some (.int 3), some (.int 4), some (.int 2), some (.int 1), some (.int 7)]) (by decide) rfl rfl dX0_soundAt_36 ?_
          refine aw_iload_n (x := t) rfl dX0_soundAt_38 ?_
          refine aw_iload_n (x := 4) rfl dX0_soundAt_39 ?_
          refine aw_icmp_lt (tgt := 60) (by decide) dX0_soundAt_40 (fun b13 => ?_) (fun b13 => ?_)
          · skip
            refine aw_iload (x := 7) rfl dX0_soundAt_60 ?_
            refine aw_iconst (v := 1) (by decide) dX0_soundAt_62 ?_
            refine aw_iaddz (z := 8) (by decide) dX0_soundAt_63 ?_
            refine aw_istore_n (L2 := [some (.int 8), some (.int t), some (.int 3), some (.int 8), some (.int 2), some (.int 1), some (.int 7)]) (by decide) rfl rfl dX0_soundAt_64 ?_
            refine aw_iinc (x := 2) (v := 3) (L2 := [some (.int 8), some (.int t), some (.int 3), some (.int 8), some (.int 3), some (.int 1), some (.int 7)]) rfl (by decide) (by decide) rfl rfl dX0_soundAt_65 ?_
            refine aw_goto (tgt := 10) (by decide) dX0_soundAt_68 ?_
            refine aw_iload (x := 3) rfl dX0_soundAt_10 ?_
            refine aw_iload_n (x := 3) rfl dX0_soundAt_12 ?_
            refine aw_icmp_ge (tgt := 71) (by decide) dX0_soundAt_13 (fun _ => ?_) (fun z => absurd z (by decide))
            refine aw_iconst (v := 0) (by decide) dX0_soundAt_71 ?_
            exact aw_iret rfl (by decide) (by decide) dX0_soundAt_72 ⟨by first | rfl | (simp [tc_s8, wd_w_row, row_self, row_row, b1, b8, b9, b12, b13]; done) | (simp_all [tc_s8, wd_w_row, row_self, row_row, b1, b8, b9, b12, b13]; done), by first | rfl | (simp [tc_s8, wd_w_row, row_self, row_row, b1, b8, b9, b12, b13]; done) | (simp_all [tc_s8, wd_w_row, row_self, row_row, b1, b8, b9, b12, b13]; done)⟩
          · skip
            refine aw_iload_n (x := t) rfl dX0_soundAt_43 ?_
            refine aw_iload (x := 7) rfl dX0_soundAt_44 ?_
            refine aw_icmp_ge (tgt := 60) (by decide) dX0_soundAt_46 (fun b14 => ?_) (fun b14 => ?_)
            · skip
              refine aw_iload (x := 7) rfl dX0_soundAt_60 ?_
              refine aw_iconst (v := 1) (by decide) dX0_soundAt_62 ?_
              refine aw_iaddz (z := 8) (by decide) dX0_soundAt_63 ?_
              refine aw_istore_n (L2 := [some (.int 8), some (.int t), some (.int 3), some (.int 8), some (.int 2), some (.int 1), some (.int 7)]) (by decide) rfl rfl dX0_soundAt_64 ?_
              refine aw_iinc (x := 2) (v := 3) (L2 := [some (.int 8), some (.int t), some (.int 3), some (.int 8), some (.int 3), some (.int 1), some (.int 7)]) rfl (by decide) (by decide) rfl rfl dX0_soundAt_65 ?_
              refine aw_goto (tgt := 10) (by decide) dX0_soundAt_68 ?_
              refine aw_iload (x := 3) rfl dX0_soundAt_10 ?_
              refine aw_iload_n (x := 3) rfl dX0_soundAt_12 ?_
              refine aw_icmp_ge (tgt := 71) (by decide) dX0_soundAt_13 (fun _ => ?_) (fun z => absurd z (by decide))
              refine aw_iconst (v := 0) (by decide) dX0_soundAt_71 ?_
              exact aw_iret rfl (by decide) (by decide) dX0_soundAt_72 ⟨by first | rfl | (simp [tc_s8, wd_w_row, row_self, row_row, b1, b8, b9, b12, b13, b14]; done) | (simp_all [tc_s8, wd_w_row, row_self, row_row, b1, b8, b9, b12, b13, b14]; done), by first | rfl | (simp [tc_s8, wd_w_row, row_self, row_row, b1, b8, b9, b12, b13, b14]; done) | (simp_all [tc_s8, wd_w_row, row_self, row_row, b1, b8, b9, b12, b13, b14]; done)⟩
            · skip
              refine aw_iload (x := 1) rfl dX0_soundAt_49 ?_
              refine aw_if_eq (tgt := 58) (by decide) dX0_soundAt_51 (fun z => absurd z (by decide)) (fun _ => ?_)
              refine aw_iconst (v := 2) (by decide) dX0_soundAt_54 ?_
              refine aw_goto (tgt := 59) (by decide) dX0_soundAt_55 ?_
              exact aw_iret rfl (by decide) (by decide) dX0_soundAt_59 ⟨by first | rfl | (simp [tc_s8, wd_w_row, row_self, row_row, b1, b8, b9, b12, b13, b14]; done) | (simp_all [tc_s8, wd_w_row, row_self, row_row, b1, b8, b9, b12, b13, b14]; done), by first | rfl | (simp [tc_s8, wd_w_row, row_self, row_row, b1, b8, b9, b12, b13, b14]; done) | (simp_all [tc_s8, wd_w_row, row_self, row_row, b1, b8, b9, b12, b13, b14]; done)⟩
        · skip
          refine aw_iload (x := 0) rfl dX0_soundAt_49 ?_
          refine aw_if_eq (tgt := 58) (by decide) dX0_soundAt_51 (fun _ => ?_) (fun z => absurd z (by decide))
          refine aw_iconst (v := 1) (by decide) dX0_soundAt_58 ?_
          exact aw_iret rfl (by decide) (by decide) dX0_soundAt_59 ⟨by first | rfl | (simp [tc_s8, wd_w_row, row_self, row_row, b1, b8, b9, b12]; done) | (simp_all [tc_s8, wd_w_row, row_self, row_row, b1, b8, b9, b12]; done), by first | rfl | (simp [tc_s8, wd_w_row, row_self, row_row, b1, b8, b9, b12]; done) | (simp_all [tc_s8, wd_w_row, row_self, row_row, b1, b8, b9, b12]; done)⟩
    · skip
      refine aw_iload (x := 0) rfl dX0_soundAt_49 ?_
      refine aw_if_eq (tgt := 58) (by decide) dX0_soundAt_51 (fun _ => ?_) (fun z => absurd z (by decide))
      refine aw_iconst (v := 1) (by decide) dX0_soundAt_58 ?_
      exact aw_iret rfl (by decide) (by decide) dX0_soundAt_59 ⟨by first | rfl | (simp [tc_s8, wd_w_row, row_self, row_row, b1, b8]; done) | (simp_all [tc_s8, wd_w_row, row_self, row_row, b1, b8]; done), by first | rfl | (simp [tc_s8, wd_w_row, row_self, row_row, b1, b8]; done) | (simp_all [tc_s8, wd_w_row, row_self, row_row, b1, b8]; done)⟩
theorem ct_X0_ringCount_9 {ad : Nat → Nat → Nat → Nat} {o : wd_S}  : CT ad MX0_ringCount [.int 9] o (RT (some (.int 3)) o) := by
  refine CT.of (L := [some (.int 9), none]) rfl rfl (by decide) (Nat.le_of_ble_eq_true rfl) rfl ?_
  refine aw_iconst (v := 0) (by decide) dX0_ringCount_0 ?_
  refine aw_istore_n (L2 := [some (.int 9), some (.int 0)]) (by decide) rfl rfl dX0_ringCount_1 ?_
  refine aw_iload_n (x := 0) rfl dX0_ringCount_2 ?_
  refine aw_iconst (v := 3) (by decide) dX0_ringCount_3 ?_
  refine aw_icmp_ge (tgt := 23) (by decide) dX0_ringCount_4 (fun z => absurd z (by decide)) (fun _ => ?_)
  refine aw_iload_n (x := 9) rfl dX0_ringCount_7 ?_
  refine aw_iconst (v := 1) (by decide) dX0_ringCount_8 ?_
  refine aw_iaddz (z := 10) (by decide) dX0_ringCount_9 ?_
  refine aw_iload_n (x := 0) rfl dX0_ringCount_10 ?_
  refine aw_iconst (v := 1) (by decide) dX0_ringCount_11 ?_
  refine aw_iaddz (z := 1) (by decide) dX0_ringCount_12 ?_
  refine aw_ishrz (z := 5) (by decide) dX0_ringCount_13 ?_
  refine aw_if_eq (tgt := 23) (by decide) dX0_ringCount_14 (fun z => absurd z (by decide)) (fun _ => ?_)
  refine aw_iinc (x := 0) (v := 1) (L2 := [some (.int 9), some (.int 1)]) rfl (by decide) (by decide) rfl rfl dX0_ringCount_17 ?_
  refine aw_goto (tgt := 2) (by decide) dX0_ringCount_20 ?_
  refine aw_iload_n (x := 1) rfl dX0_ringCount_2 ?_
  refine aw_iconst (v := 3) (by decide) dX0_ringCount_3 ?_
  refine aw_icmp_ge (tgt := 23) (by decide) dX0_ringCount_4 (fun z => absurd z (by decide)) (fun _ => ?_)
  refine aw_iload_n (x := 9) rfl dX0_ringCount_7 ?_
  refine aw_iconst (v := 1) (by decide) dX0_ringCount_8 ?_
  refine aw_iaddz (z := 10) (by decide) dX0_ringCount_9 ?_
  refine aw_iload_n (x := 1) rfl dX0_ringCount_10 ?_
  refine aw_iconst (v := 1) (by decide) dX0_ringCount_11 ?_
  refine aw_iaddz (z := 2) (by decide) dX0_ringCount_12 ?_
  refine aw_ishrz (z := 2) (by decide) dX0_ringCount_13 ?_
  refine aw_if_eq (tgt := 23) (by decide) dX0_ringCount_14 (fun z => absurd z (by decide)) (fun _ => ?_)
  refine aw_iinc (x := 1) (v := 2) (L2 := [some (.int 9), some (.int 2)]) rfl (by decide) (by decide) rfl rfl dX0_ringCount_17 ?_
  refine aw_goto (tgt := 2) (by decide) dX0_ringCount_20 ?_
  refine aw_iload_n (x := 2) rfl dX0_ringCount_2 ?_
  refine aw_iconst (v := 3) (by decide) dX0_ringCount_3 ?_
  refine aw_icmp_ge (tgt := 23) (by decide) dX0_ringCount_4 (fun z => absurd z (by decide)) (fun _ => ?_)
  refine aw_iload_n (x := 9) rfl dX0_ringCount_7 ?_
  refine aw_iconst (v := 1) (by decide) dX0_ringCount_8 ?_
  refine aw_iaddz (z := 10) (by decide) dX0_ringCount_9 ?_
  refine aw_iload_n (x := 2) rfl dX0_ringCount_10 ?_
  refine aw_iconst (v := 1) (by decide) dX0_ringCount_11 ?_
  refine aw_iaddz (z := 3) (by decide) dX0_ringCount_12 ?_
  refine aw_ishrz (z := 1) (by decide) dX0_ringCount_13 ?_
  refine aw_if_eq (tgt := 23) (by decide) dX0_ringCount_14 (fun z => absurd z (by decide)) (fun _ => ?_)
  refine aw_iinc (x := 2) (v := 3) (L2 := [some (.int 9), some (.int 3)]) rfl (by decide) (by decide) rfl rfl dX0_ringCount_17 ?_
  refine aw_goto (tgt := 2) (by decide) dX0_ringCount_20 ?_
  refine aw_iload_n (x := 3) rfl dX0_ringCount_2 ?_
  refine aw_iconst (v := 3) (by decide) dX0_ringCount_3 ?_
  refine aw_icmp_ge (tgt := 23) (by decide) dX0_ringCount_4 (fun _ => ?_) (fun z => absurd z (by decide))
  refine aw_iload_n (x := 3) rfl dX0_ringCount_23 ?_
  exact aw_iret rfl (by decide) (by decide) dX0_ringCount_24 ⟨by first | rfl | (simp [wd_w_row, row_self, row_row]; done) | (simp_all [wd_w_row, row_self, row_row]; done), by first | rfl | (simp [wd_w_row, row_self, row_row]; done) | (simp_all [wd_w_row, row_self, row_row]; done)⟩
theorem ct_X0_isLong_9_0 {ad : Nat → Nat → Nat → Nat} {o : wd_S}  : CT ad MX0_isLong [.int 9, .int 0] o (RT (some (.int 0)) o) := by
  refine CT.of (L := [some (.int 9), some (.int 0), none]) rfl rfl (by decide) (Nat.le_of_ble_eq_true rfl) rfl ?_
  refine aw_iload_n (x := 9) rfl dX0_isLong_0 ?_
  refine aw_rS (v := some (.int 3)) (o2 := o) ct_X0_ringCount_9 (mm_fit_of cbX0_ringCount (by decide) (by decide)) wq303 wq304 rfl rfl (Nat.le_of_ble_eq_true rfl) (by decide) (by decide) rfl dX0_isLong_1 ?_
  refine aw_iconst (v := 1) (by decide) dX0_isLong_4 ?_
  refine aw_isubz (z := 2) (by decide) dX0_isLong_5 ?_
  refine aw_iload_n (x := 0) rfl dX0_isLong_6 ?_
  refine aw_isubz (z := 2) (by decide) dX0_isLong_7 ?_
  refine aw_istore_n (L2 := [some (.int 9), some (.int 0), some (.int 2)]) (by decide) rfl rfl dX0_isLong_8 ?_
  refine aw_iload_n (x := 9) rfl dX0_isLong_9 ?_
  refine aw_iconst (v := 1) (by decide) dX0_isLong_10 ?_
  refine aw_iaddz (z := 10) (by decide) dX0_isLong_11 ?_
  refine aw_iload_n (x := 2) rfl dX0_isLong_12 ?_
  refine aw_ishrz (z := 2) (by decide) dX0_isLong_13 ?_
  refine aw_iconst (v := 1) (by decide) dX0_isLong_14 ?_
  refine aw_iandz (z := 0) (by decide) dX0_isLong_15 ?_
  refine aw_iconst (v := 1) (by decide) dX0_isLong_16 ?_
  refine aw_icmp_ne (tgt := 24) (by decide) dX0_isLong_17 (fun _ => ?_) (fun z => absurd z (by decide))
  refine aw_iconst (v := 0) (by decide) dX0_isLong_24 ?_
  exact aw_zret rfl (by decide) (by decide) (by decide) dX0_isLong_25 ⟨by first | rfl | (simp [wd_w_row, row_self, row_row]; done) | (simp_all [wd_w_row, row_self, row_row]; done), by first | rfl | (simp [wd_w_row, row_self, row_row]; done) | (simp_all [wd_w_row, row_self, row_row]; done)⟩
theorem ct_X0_isLong_9_1 {ad : Nat → Nat → Nat → Nat} {o : wd_S}  : CT ad MX0_isLong [.int 9, .int 1] o (RT (some (.int 1)) o) := by
  refine CT.of (L := [some (.int 9), some (.int 1), none]) rfl rfl (by decide) (Nat.le_of_ble_eq_true rfl) rfl ?_
  refine aw_iload_n (x := 9) rfl dX0_isLong_0 ?_
  refine aw_rS (v := some (.int 3)) (o2 := o) ct_X0_ringCount_9 (mm_fit_of cbX0_ringCount (by decide) (by decide)) wq303 wq304 rfl rfl (Nat.le_of_ble_eq_true rfl) (by decide) (by decide) rfl dX0_isLong_1 ?_
  refine aw_iconst (v := 1) (by decide) dX0_isLong_4 ?_
  refine aw_isubz (z := 2) (by decide) dX0_isLong_5 ?_
  refine aw_iload_n (x := 1) rfl dX0_isLong_6 ?_
  refine aw_isubz (z := 1) (by decide) dX0_isLong_7 ?_
  refine aw_istore_n (L2 := [some (.int 9), some (.int 1), some (.int 1)]) (by decide) rfl rfl dX0_isLong_8 ?_
  refine aw_iload_n (x := 9) rfl dX0_isLong_9 ?_
  refine aw_iconst (v := 1) (by decide) dX0_isLong_10 ?_
  refine aw_iaddz (z := 10) (by decide) dX0_isLong_11 ?_
  refine aw_iload_n (x := 1) rfl dX0_isLong_12 ?_
  refine aw_ishrz (z := 5) (by decide) dX0_isLong_13 ?_
  refine aw_iconst (v := 1) (by decide) dX0_isLong_14 ?_
  refine aw_iandz (z := 1) (by decide) dX0_isLong_15 ?_
  refine aw_iconst (v := 1) (by decide) dX0_isLong_16 ?_
  refine aw_icmp_ne (tgt := 24) (by decide) dX0_isLong_17 (fun z => absurd z (by decide)) (fun _ => ?_)
  refine aw_iconst (v := 1) (by decide) dX0_isLong_20 ?_
  refine aw_goto (tgt := 25) (by decide) dX0_isLong_21 ?_
  exact aw_zret rfl (by decide) (by decide) (by decide) dX0_isLong_25 ⟨by first | rfl | (simp [wd_w_row, row_self, row_row]; done) | (simp_all [wd_w_row, row_self, row_row]; done), by first | rfl | (simp [wd_w_row, row_self, row_row]; done) | (simp_all [wd_w_row, row_self, row_row]; done)⟩
theorem ct_X0_isLong_9_2 {ad : Nat → Nat → Nat → Nat} {o : wd_S}  : CT ad MX0_isLong [.int 9, .int 2] o (RT (some (.int 0)) o) := by
  refine CT.of (L := [some (.int 9), some (.int 2), none]) rfl rfl (by decide) (Nat.le_of_ble_eq_true rfl) rfl ?_
  refine aw_iload_n (x := 9) rfl dX0_isLong_0 ?_
  refine aw_rS (v := some (.int 3)) (o2 := o) ct_X0_ringCount_9 (mm_fit_of cbX0_ringCount (by decide) (by decide)) wq303 wq304 rfl rfl (Nat.le_of_ble_eq_true rfl) (by decide) (by decide) rfl dX0_isLong_1 ?_
  refine aw_iconst (v := 1) (by decide) dX0_isLong_4 ?_
  refine aw_isubz (z := 2) (by decide) dX0_isLong_5 ?_
  refine aw_iload_n (x := 2) rfl dX0_isLong_6 ?_
  refine aw_isubz (z := 0) (by decide) dX0_isLong_7 ?_
  refine aw_istore_n (L2 := [some (.int 9), some (.int 2), some (.int 0)]) (by decide) rfl rfl dX0_isLong_8 ?_
  refine aw_iload_n (x := 9) rfl dX0_isLong_9 ?_
  refine aw_iconst (v := 1) (by decide) dX0_isLong_10 ?_
  refine aw_iaddz (z := 10) (by decide) dX0_isLong_11 ?_
  refine aw_iload_n (x := 0) rfl dX0_isLong_12 ?_
  refine aw_ishrz (z := 10) (by decide) dX0_isLong_13 ?_
  refine aw_iconst (v := 1) (by decide) dX0_isLong_14 ?_
  refine aw_iandz (z := 0) (by decide) dX0_isLong_15 ?_
  refine aw_iconst (v := 1) (by decide) dX0_isLong_16 ?_
  refine aw_icmp_ne (tgt := 24) (by decide) dX0_isLong_17 (fun _ => ?_) (fun z => absurd z (by decide))
  refine aw_iconst (v := 0) (by decide) dX0_isLong_24 ?_
  exact aw_zret rfl (by decide) (by decide) (by decide) dX0_isLong_25 ⟨by first | rfl | (simp [wd_w_row, row_self, row_row]; done) | (simp_all [wd_w_row, row_self, row_row]; done), by first | rfl | (simp [wd_w_row, row_self, row_row]; done) | (simp_all [wd_w_row, row_self, row_row]; done)⟩
theorem ct_X0_lengthOf_9 {ad : Nat → Nat → Nat → Nat} {o : wd_S}  : CT ad MX0_lengthOf [.int 9] o (RT (some (.int 11)) o) := by
  refine CT.of (L := [some (.int 9), none, none, none]) rfl rfl (by decide) (Nat.le_of_ble_eq_true rfl) rfl ?_
  refine aw_iload_n (x := 9) rfl dX0_lengthOf_0 ?_
  refine aw_rS (v := some (.int 3)) (o2 := o) ct_X0_ringCount_9 (mm_fit_of cbX0_ringCount (by decide) (by decide)) wq303 wq304 rfl rfl (Nat.le_of_ble_eq_true rfl) (by decide) (by decide) rfl dX0_lengthOf_1 ?_
  refine aw_istore_n (L2 := [some (.int 9), some (.int 3), none, none]) (by decide) rfl rfl dX0_lengthOf_4 ?_
  refine aw_iload_n (x := 3) rfl dX0_lengthOf_5 ?_
  refine aw_iconst (v := 1) (by decide) dX0_lengthOf_6 ?_
  refine aw_isubz (z := 2) (by decide) dX0_lengthOf_7 ?_
  refine aw_iconst (v := 1) (by decide) dX0_lengthOf_8 ?_
  refine aw_imulz (z := 2) (by decide) dX0_lengthOf_9 ?_
  refine aw_iconst (v := 4) (by decide) dX0_lengthOf_10 ?_
  refine aw_iaddz (z := 6) (by decide) dX0_lengthOf_11 ?_
  refine aw_istore_n (L2 := [some (.int 9), some (.int 3), some (.int 6), none]) (by decide) rfl rfl dX0_lengthOf_12 ?_
  refine aw_iconst (v := 0) (by decide) dX0_lengthOf_13 ?_
  refine aw_istore_n (L2 := [some (.int 9), some (.int 3), some (.int 6), some (.int 0)]) (by decide) rfl rfl dX0_lengthOf_14 ?_
  refine aw_iload_n (x := 0) rfl dX0_lengthOf_15 ?_
  refine aw_iload_n (x := 3) rfl dX0_lengthOf_16 ?_
  refine aw_icmp_ge (tgt := 45) (by decide) dX0_lengthOf_17 (fun z => absurd z (by decide)) (fun _ => ?_)
  refine aw_iload_n (x := 6) rfl dX0_lengthOf_20 ?_
  refine aw_iload_n (x := 9) rfl dX0_lengthOf_21 ?_
  refine aw_iconst (v := 1) (by decide) dX0_lengthOf_22 ?_
  refine aw_iaddz (z := 10) (by decide) dX0_lengthOf_23 ?_
  refine aw_iload_n (x := 0) rfl dX0_lengthOf_24 ?_
  refine aw_ishrz (z := 10) (by decide) dX0_lengthOf_25 ?_
  refine aw_iconst (v := 1) (by decide) dX0_lengthOf_26 ?_
  refine aw_iandz (z := 0) (by decide) dX0_lengthOf_27 ?_
  refine aw_iconst (v := 1) (by decide) dX0_lengthOf_28 ?_
  refine aw_icmp_ne (tgt := 36) (by decide) dX0_lengthOf_29 (fun _ => ?_) (fun z => absurd z (by decide))
  refine aw_iconst (v := 1) (by decide) dX0_lengthOf_36 ?_
  refine aw_iaddz (z := 7) (by decide) dX0_lengthOf_37 ?_
  refine aw_istore_n (L2 := [some (.int 9), some (.int 3), some (.int 7), some (.int 0)]) (by decide) rfl rfl dX0_lengthOf_38 ?_
  refine aw_iinc (x := 0) (v := 1) (L2 := [some (.int 9), some (.int 3), some (.int 7), some (.int 1)]) rfl (by decide) (by decide) rfl rfl dX0_lengthOf_39 ?_
  refine aw_goto (tgt := 15) (by decide) dX0_lengthOf_42 ?_
  refine aw_iload_n (x := 1) rfl dX0_lengthOf_15 ?_
  refine aw_iload_n (x := 3) rfl dX0_lengthOf_16 ?_
  refine aw_icmp_ge (tgt := 45) (by decide) dX0_lengthOf_17 (fun z => absurd z (by decide)) (fun _ => ?_)
  refine aw_iload_n (x := 7) rfl dX0_lengthOf_20 ?_
  refine aw_iload_n (x := 9) rfl dX0_lengthOf_21 ?_
  refine aw_iconst (v := 1) (by decide) dX0_lengthOf_22 ?_
  refine aw_iaddz (z := 10) (by decide) dX0_lengthOf_23 ?_
  refine aw_iload_n (x := 1) rfl dX0_lengthOf_24 ?_
  refine aw_ishrz (z := 5) (by decide) dX0_lengthOf_25 ?_
  refine aw_iconst (v := 1) (by decide) dX0_lengthOf_26 ?_
  refine aw_iandz (z := 1) (by decide) dX0_lengthOf_27 ?_
  refine aw_iconst (v := 1) (by decide) dX0_lengthOf_28 ?_
  refine aw_icmp_ne (tgt := 36) (by decide) dX0_lengthOf_29 (fun z => absurd z (by decide)) (fun _ => ?_)
  refine aw_iconst (v := 3) (by decide) dX0_lengthOf_32 ?_
  refine aw_goto (tgt := 37) (by decide) dX0_lengthOf_33 ?_
  refine aw_iaddz (z := 10) (by decide) dX0_lengthOf_37 ?_
  refine aw_istore_n (L2 := [some (.int 9), some (.int 3), some (.int 10), some (.int 1)]) (by decide) rfl rfl dX0_lengthOf_38 ?_
  refine aw_iinc (x := 1) (v := 2) (L2 := [some (.int 9), some (.int 3), some (.int 10), some (.int 2)]) rfl (by decide) (by decide) rfl rfl dX0_lengthOf_39 ?_
  refine aw_goto (tgt := 15) (by decide) dX0_lengthOf_42 ?_
  refine aw_iload_n (x := 2) rfl dX0_lengthOf_15 ?_
  refine aw_iload_n (x := 3) rfl dX0_lengthOf_16 ?_
  refine aw_icmp_ge (tgt := 45) (by decide) dX0_lengthOf_17 (fun z => absurd z (by decide)) (fun _ => ?_)
  refine aw_iload_n (x := 10) rfl dX0_lengthOf_20 ?_
  refine aw_iload_n (x := 9) rfl dX0_lengthOf_21 ?_
  refine aw_iconst (v := 1) (by decide) dX0_lengthOf_22 ?_
  refine aw_iaddz (z := 10) (by decide) dX0_lengthOf_23 ?_
  refine aw_iload_n (x := 2) rfl dX0_lengthOf_24 ?_
  refine aw_ishrz (z := 2) (by decide) dX0_lengthOf_25 ?_
  refine aw_iconst (v := 1) (by decide) dX0_lengthOf_26 ?_
  refine aw_iandz (z := 0) (by decide) dX0_lengthOf_27 ?_
  refine aw_iconst (v := 1) (by decide) dX0_lengthOf_28 ?_
  refine aw_icmp_ne (tgt := 36) (by decide) dX0_lengthOf_29 (fun _ => ?_) (fun z => absurd z (by decide))
  refine aw_iconst (v := 1) (by decide) dX0_lengthOf_36 ?_
  refine aw_iaddz (z := 11) (by decide) dX0_lengthOf_37 ?_
  refine aw_istore_n (L2 := [some (.int 9), some (.int 3), some (.int 11), some (.int 2)]) (by decide) rfl rfl dX0_lengthOf_38 ?_
  refine aw_iinc (x := 2) (v := 3) (L2 := [some (.int 9), some (.int 3), some (.int 11), some (.int 3)]) rfl (by decide) (by decide) rfl rfl dX0_lengthOf_39 ?_
  refine aw_goto (tgt := 15) (by decide) dX0_lengthOf_42 ?_
  refine aw_iload_n (x := 3) rfl dX0_lengthOf_15 ?_
  refine aw_iload_n (x := 3) rfl dX0_lengthOf_16 ?_
  refine aw_icmp_ge (tgt := 45) (by decide) dX0_lengthOf_17 (fun _ => ?_) (fun z => absurd z (by decide))
  refine aw_iload_n (x := 11) rfl dX0_lengthOf_45 ?_
  exact aw_iret rfl (by decide) (by decide) dX0_lengthOf_46 ⟨by first | rfl | (simp [wd_w_row, row_self, row_row]; done) | (simp_all [wd_w_row, row_self, row_row]; done), by first | rfl | (simp [wd_w_row, row_self, row_row]; done) | (simp_all [wd_w_row, row_self, row_row]; done)⟩
theorem ct_X0_soundAt_9 {ad : Nat → Nat → Nat → Nat} {o : wd_S} {t : Int32} : CT ad MX0_soundAt [.int 9, .int t] o (RT (some (.int (tc_s9 t))) o) := by
  refine CT.of (L := [some (.int 9), some (.int t), none, none, none, none, none]) rfl rfl (by decide) (Nat.le_of_ble_eq_true rfl) rfl ?_
  refine aw_iload_n (x := 9) rfl dX0_soundAt_0 ?_
  refine aw_rS (v := some (.int 3)) (o2 := o) ct_X0_ringCount_9 (mm_fit_of cbX0_ringCount (by decide) (by decide)) wq303 wq304 rfl rfl (Nat.le_of_ble_eq_true rfl) (by decide) (by decide) rfl dX0_soundAt_1 ?_
  refine aw_istore_n (L2 := [some (.int 9), some (.int t), some (.int 3), none, none, none, none]) (by decide) rfl rfl dX0_soundAt_4 ?_
  refine aw_iconst (v := 0) (by decide) dX0_soundAt_5 ?_
  refine aw_istore_n (L2 := [some (.int 9), some (.int t), some (.int 3), some (.int 0), none, none, none]) (by decide) rfl rfl dX0_soundAt_6 ?_
  refine aw_iconst (v := 0) (by decide) dX0_soundAt_7 ?_
  refine aw_istore (L2 := [some (.int 9), some (.int t), some (.int 3), some (.int 0), some (.int 0), none, none]) (by decide) rfl rfl dX0_soundAt_8 ?_
  refine aw_iload (x := 0) rfl dX0_soundAt_10 ?_
  refine aw_iload_n (x := 3) rfl dX0_soundAt_12 ?_
  refine aw_icmp_ge (tgt := 71) (by decide) dX0_soundAt_13 (fun z => absurd z (by decide)) (fun _ => ?_)
  refine aw_iload_n (x := 9) rfl dX0_soundAt_16 ?_
  refine aw_iload (x := 0) rfl dX0_soundAt_17 ?_
  refine aw_rS (v := some (.int 0)) (o2 := o) ct_X0_isLong_9_0 (mm_fit_of cbX0_isLong (by decide) (by decide)) wq309 wq310 rfl rfl (Nat.le_of_ble_eq_true rfl) (by decide) (by decide) rfl dX0_soundAt_19 ?_
  refine aw_istore (L2 := [some (.int 9), some (.int t), some (.int 3), some (.int 0), some (.int 0), some (.int 0), none]) (by decide) rfl rfl dX0_soundAt_22 ?_
  refine aw_iload_n (x := 0) rfl dX0_soundAt_24 ?_
  refine aw_iload (x := 0) rfl dX0_soundAt_25 ?_
  refine aw_if_eq (tgt := 34) (by decide) dX0_soundAt_27 (fun _ => ?_) (fun z => absurd z (by decide))
  refine aw_iconst (v := 1) (by decide) dX0_soundAt_34 ?_
  refine aw_iaddz (z := 1) (by decide) dX0_soundAt_35 ?_
  refine aw_istore (L2 := [some (.int 9), some (.int t), some (.int 3), some (.int 0), some (.int 0), some (.int 0), some (.int 1)]) (by decide) rfl rfl dX0_soundAt_36 ?_
  refine aw_iload_n (x := t) rfl dX0_soundAt_38 ?_
  refine aw_iload_n (x := 0) rfl dX0_soundAt_39 ?_
  refine aw_icmp_lt (tgt := 60) (by decide) dX0_soundAt_40 (fun b1 => ?_) (fun b1 => ?_)
  · skip
    refine aw_iload (x := 1) rfl dX0_soundAt_60 ?_
    refine aw_iconst (v := 1) (by decide) dX0_soundAt_62 ?_
    refine aw_iaddz (z := 2) (by decide) dX0_soundAt_63 ?_
    refine aw_istore_n (L2 := [some (.int 9), some (.int t), some (.int 3), some (.int 2), some (.int 0), some (.int 0), some (.int 1)]) (by decide) rfl rfl dX0_soundAt_64 ?_
    refine aw_iinc (x := 0) (v := 1) (L2 := [some (.int 9), some (.int t), some (.int 3), some (.int 2), some (.int 1), some (.int 0), some (.int 1)]) rfl (by decide) (by decide) rfl rfl dX0_soundAt_65 ?_
    refine aw_goto (tgt := 10) (by decide) dX0_soundAt_68 ?_
    refine aw_iload (x := 1) rfl dX0_soundAt_10 ?_
    refine aw_iload_n (x := 3) rfl dX0_soundAt_12 ?_
    refine aw_icmp_ge (tgt := 71) (by decide) dX0_soundAt_13 (fun z => absurd z (by decide)) (fun _ => ?_)
    refine aw_iload_n (x := 9) rfl dX0_soundAt_16 ?_
    refine aw_iload (x := 1) rfl dX0_soundAt_17 ?_
    refine aw_rS (v := some (.int 1)) (o2 := o) ct_X0_isLong_9_1 (mm_fit_of cbX0_isLong (by decide) (by decide)) wq309 wq310 rfl rfl (Nat.le_of_ble_eq_true rfl) (by decide) (by decide) rfl dX0_soundAt_19 ?_
    refine aw_istore (L2 := [some (.int 9), some (.int t), some (.int 3), some (.int 2), some (.int 1), some (.int 1), some (.int 1)]) (by decide) rfl rfl dX0_soundAt_22 ?_
    refine aw_iload_n (x := 2) rfl dX0_soundAt_24 ?_
    refine aw_iload (x := 1) rfl dX0_soundAt_25 ?_
    refine aw_if_eq (tgt := 34) (by decide) dX0_soundAt_27 (fun z => absurd z (by decide)) (fun _ => ?_)
    refine aw_iconst (v := 3) (by decide) dX0_soundAt_30 ?_
    refine aw_goto (tgt := 35) (by decide) dX0_soundAt_31 ?_
    refine aw_iaddz (z := 5) (by decide) dX0_soundAt_35 ?_
    refine aw_istore (L2 := [some (.int 9), some (.int t), some (.int 3), some (.int 2), some (.int 1), some (.int 1), some (.int 5)]) (by decide) rfl rfl dX0_soundAt_36 ?_
    refine aw_iload_n (x := t) rfl dX0_soundAt_38 ?_
    refine aw_iload_n (x := 2) rfl dX0_soundAt_39 ?_
    refine aw_icmp_lt (tgt := 60) (by decide) dX0_soundAt_40 (fun b2 => ?_) (fun b2 => ?_)
    · skip
      refine aw_iload (x := 5) rfl dX0_soundAt_60 ?_
      refine aw_iconst (v := 1) (by decide) dX0_soundAt_62 ?_
      refine aw_iaddz (z := 6) (by decide) dX0_soundAt_63 ?_
      refine aw_istore_n (L2 := [some (.int 9), some (.int t), some (.int 3), some (.int 6), some (.int 1), some (.int 1), some (.int 5)]) (by decide) rfl rfl dX0_soundAt_64 ?_
      refine aw_iinc (x := 1) (v := 2) (L2 := [some (.int 9), some (.int t), some (.int 3), some (.int 6), some (.int 2), some (.int 1), some (.int 5)]) rfl (by decide) (by decide) rfl rfl dX0_soundAt_65 ?_
      refine aw_goto (tgt := 10) (by decide) dX0_soundAt_68 ?_
      refine aw_iload (x := 2) rfl dX0_soundAt_10 ?_
      refine aw_iload_n (x := 3) rfl dX0_soundAt_12 ?_
      refine aw_icmp_ge (tgt := 71) (by decide) dX0_soundAt_13 (fun z => absurd z (by decide)) (fun _ => ?_)
      refine aw_iload_n (x := 9) rfl dX0_soundAt_16 ?_
      refine aw_iload (x := 2) rfl dX0_soundAt_17 ?_
      refine aw_rS (v := some (.int 0)) (o2 := o) ct_X0_isLong_9_2 (mm_fit_of cbX0_isLong (by decide) (by decide)) wq309 wq310 rfl rfl (Nat.le_of_ble_eq_true rfl) (by decide) (by decide) rfl dX0_soundAt_19 ?_
      refine aw_istore (L2 := [some (.int 9), some (.int t), some (.int 3), some (.int 6), some (.int 2), some (.int 0), some (.int 5)]) (by decide) rfl rfl dX0_soundAt_22 ?_
      refine aw_iload_n (x := 6) rfl dX0_soundAt_24 ?_
      refine aw_iload (x := 0) rfl dX0_soundAt_25 ?_
      refine aw_if_eq (tgt := 34) (by decide) dX0_soundAt_27 (fun _ => ?_) (fun z => absurd z (by decide))
      refine aw_iconst (v := 1) (by decide) dX0_soundAt_34 ?_
      refine aw_iaddz (z := 7) (by decide) dX0_soundAt_35 ?_
      refine aw_istore (L2 := [some (.int 9), some (.int t), some (.int 3), some (.int 6), some (.int 2), some (.int 0), some (.int 7)]) (by decide) rfl rfl dX0_soundAt_36 ?_
      refine aw_iload_n (x := t) rfl dX0_soundAt_38 ?_
      refine aw_iload_n (x := 6) rfl dX0_soundAt_39 ?_
      refine aw_icmp_lt (tgt := 60) (by decide) dX0_soundAt_40 (fun b3 => ?_) (fun b3 => ?_)
      · skip
        refine aw_iload (x := 7) rfl dX0_soundAt_60 ?_
        refine aw_iconst (v := 1) (by decide) dX0_soundAt_62 ?_
        refine aw_iaddz (z := 8) (by decide) dX0_soundAt_63 ?_
        refine aw_istore_n (L2 := [some (.int 9), some (.int t), some (.int 3), some (.int 8), some (.int 2), some (.int 0), some (.int 7)]) (by decide) rfl rfl dX0_soundAt_64 ?_
        refine aw_iinc (x := 2) (v := 3) (L2 := [some (.int 9), some (.int t), some (.int 3), some (.int 8), some (.int 3), some (.int 0), some (.int 7)]) rfl (by decide) (by decide) rfl rfl dX0_soundAt_65 ?_
        refine aw_goto (tgt := 10) (by decide) dX0_soundAt_68 ?_
        refine aw_iload (x := 3) rfl dX0_soundAt_10 ?_
        refine aw_iload_n (x := 3) rfl dX0_soundAt_12 ?_
        refine aw_icmp_ge (tgt := 71) (by decide) dX0_soundAt_13 (fun _ => ?_) (fun z => absurd z (by decide))
        refine aw_iconst (v := 0) (by decide) dX0_soundAt_71 ?_
        exact aw_iret rfl (by decide) (by decide) dX0_soundAt_72 ⟨by first | rfl | (simp [tc_s9, wd_w_row, row_self, row_row, b1, b2, b3]; done) | (simp_all [tc_s9, wd_w_row, row_self, row_row, b1, b2, b3]; done), by first | rfl | (simp [tc_s9, wd_w_row, row_self, row_row, b1, b2, b3]; done) | (simp_all [tc_s9, wd_w_row, row_self, row_row, b1, b2, b3]; done)⟩
      · skip
        refine aw_iload_n (x := t) rfl dX0_soundAt_43 ?_
        refine aw_iload (x := 7) rfl dX0_soundAt_44 ?_
        refine aw_icmp_ge (tgt := 60) (by decide) dX0_soundAt_46 (fun b4 => ?_) (fun b4 => ?_)
        · skip
          refine aw_iload (x := 7) rfl dX0_soundAt_60 ?_
          refine aw_iconst (v := 1) (by decide) dX0_soundAt_62 ?_
          refine aw_iaddz (z := 8) (by decide) dX0_soundAt_63 ?_
          refine aw_istore_n (L2 := [some (.int 9), some (.int t), some (.int 3), some (.int 8), some (.int 2), some (.int 0), some (.int 7)]) (by decide) rfl rfl dX0_soundAt_64 ?_
          refine aw_iinc (x := 2) (v := 3) (L2 := [some (.int 9), some (.int t), some (.int 3), some (.int 8), some (.int 3), some (.int 0), some (.int 7)]) rfl (by decide) (by decide) rfl rfl dX0_soundAt_65 ?_
          refine aw_goto (tgt := 10) (by decide) dX0_soundAt_68 ?_
          refine aw_iload (x := 3) rfl dX0_soundAt_10 ?_
          refine aw_iload_n (x := 3) rfl dX0_soundAt_12 ?_
          refine aw_icmp_ge (tgt := 71) (by decide) dX0_soundAt_13 (fun _ => ?_) (fun z => absurd z (by decide))
          refine aw_iconst (v := 0) (by decide) dX0_soundAt_71 ?_
          exact aw_iret rfl (by decide) (by decide) dX0_soundAt_72 ⟨by first | rfl | (simp [tc_s9, wd_w_row, row_self, row_row, b1, b2, b3, b4]; done) | (simp_all [tc_s9, wd_w_row, row_self, row_row, b1, b2, b3, b4]; done), by first | rfl | (simp [tc_s9, wd_w_row, row_self, row_row, b1, b2, b3, b4]; done) | (simp_all [tc_s9, wd_w_row, row_self, row_row, b1, b2, b3, b4]; done)⟩
        · skip
          refine aw_iload (x := 0) rfl dX0_soundAt_49 ?_
          refine aw_if_eq (tgt := 58) (by decide) dX0_soundAt_51 (fun _ => ?_) (fun z => absurd z (by decide))
          refine aw_iconst (v := 1) (by decide) dX0_soundAt_58 ?_
          exact aw_iret rfl (by decide) (by decide) dX0_soundAt_59 ⟨by first | rfl | (simp [tc_s9, wd_w_row, row_self, row_row, b1, b2, b3, b4]; done) | (simp_all [tc_s9, wd_w_row, row_self, row_row, b1, b2, b3, b4]; done), by first | rfl | (simp [tc_s9, wd_w_row, row_self, row_row, b1, b2, b3, b4]; done) | (simp_all [tc_s9, wd_w_row, row_self, row_row, b1, b2, b3, b4]; done)⟩
    · skip
      refine aw_iload_n (x := t) rfl dX0_soundAt_43 ?_
      refine aw_iload (x := 5) rfl dX0_soundAt_44 ?_
      refine aw_icmp_ge (tgt := 60) (by decide) dX0_soundAt_46 (fun b5 => ?_) (fun b5 => ?_)
      · skip
        refine aw_iload (x := 5) rfl dX0_soundAt_60 ?_
        refine aw_iconst (v := 1) (by decide) dX0_soundAt_62 ?_
        refine aw_iaddz (z := 6) (by decide) dX0_soundAt_63 ?_
        refine aw_istore_n (L2 := [some (.int 9), some (.int t), some (.int 3), some (.int 6), some (.int 1), some (.int 1), some (.int 5)]) (by decide) rfl rfl dX0_soundAt_64 ?_
        refine aw_iinc (x := 1) (v := 2) (L2 := [some (.int 9), some (.int t), some (.int 3), some (.int 6), some (.int 2), some (.int 1), some (.int 5)]) rfl (by decide) (by decide) rfl rfl dX0_soundAt_65 ?_
        refine aw_goto (tgt := 10) (by decide) dX0_soundAt_68 ?_
        refine aw_iload (x := 2) rfl dX0_soundAt_10 ?_
        refine aw_iload_n (x := 3) rfl dX0_soundAt_12 ?_
        refine aw_icmp_ge (tgt := 71) (by decide) dX0_soundAt_13 (fun z => absurd z (by decide)) (fun _ => ?_)
        refine aw_iload_n (x := 9) rfl dX0_soundAt_16 ?_
        refine aw_iload (x := 2) rfl dX0_soundAt_17 ?_
        refine aw_rS (v := some (.int 0)) (o2 := o) ct_X0_isLong_9_2 (mm_fit_of cbX0_isLong (by decide) (by decide)) wq309 wq310 rfl rfl (Nat.le_of_ble_eq_true rfl) (by decide) (by decide) rfl dX0_soundAt_19 ?_
        refine aw_istore (L2 := [some (.int 9), some (.int t), some (.int 3), some (.int 6), some (.int 2), some (.int 0), some (.int 5)]) (by decide) rfl rfl dX0_soundAt_22 ?_
        refine aw_iload_n (x := 6) rfl dX0_soundAt_24 ?_
        refine aw_iload (x := 0) rfl dX0_soundAt_25 ?_
        refine aw_if_eq (tgt := 34) (by decide) dX0_soundAt_27 (fun _ => ?_) (fun z => absurd z (by decide))
        refine aw_iconst (v := 1) (by decide) dX0_soundAt_34 ?_
        refine aw_iaddz (z := 7) (by decide) dX0_soundAt_35 ?_
        refine aw_istore (L2 := [some (.int 9), some (.int t), some (.int 3), some (.int 6), some (.int 2), some (.int 0), some (.int 7)]) (by decide) rfl rfl dX0_soundAt_36 ?_
        refine aw_iload_n (x := t) rfl dX0_soundAt_38 ?_
        refine aw_iload_n (x := 6) rfl dX0_soundAt_39 ?_
        refine aw_icmp_lt (tgt := 60) (by decide) dX0_soundAt_40 (fun b6 => ?_) (fun b6 => ?_)
        · skip
          refine aw_iload (x := 7) rfl dX0_soundAt_60 ?_
          refine aw_iconst (v := 1) (by decide) dX0_soundAt_62 ?_
          refine aw_iaddz (z := 8) (by decide) dX0_soundAt_63 ?_
          refine aw_istore_n (L2 := [some (.int 9), some (.int t), some (.int 3), some (.int 8), some (.int 2), some (.int 0), some (.int 7)]) (by decide) rfl rfl dX0_soundAt_64 ?_
          refine aw_iinc (x := 2) (v := 3) (L2 := [some (.int 9), some (.int t), some (.int 3), some (.int 8), some (.int 3), some (.int 0), some (.int 7)]) rfl (by decide) (by decide) rfl rfl dX0_soundAt_65 ?_
          refine aw_goto (tgt := 10) (by decide) dX0_soundAt_68 ?_
          refine aw_iload (x := 3) rfl dX0_soundAt_10 ?_
          refine aw_iload_n (x := 3) rfl dX0_soundAt_12 ?_
          refine aw_icmp_ge (tgt := 71) (by decide) dX0_soundAt_13 (fun _ => ?_) (fun z => absurd z (by decide))
          refine aw_iconst (v := 0) (by decide) dX0_soundAt_71 ?_
          exact aw_iret rfl (by decide) (by decide) dX0_soundAt_72 ⟨by first | rfl | (simp [tc_s9, wd_w_row, row_self, row_row, b1, b2, b5, b6]; done) | (simp_all [tc_s9, wd_w_row, row_self, row_row, b1, b2, b5, b6]; done), by first | rfl | (simp [tc_s9, wd_w_row, row_self, row_row, b1, b2, b5, b6]; done) | (simp_all [tc_s9, wd_w_row, row_self, row_row, b1, b2, b5, b6]; done)⟩
        · skip
          refine aw_iload_n (x := t) rfl dX0_soundAt_43 ?_
          refine aw_iload (x := 7) rfl dX0_soundAt_44 ?_
          refine aw_icmp_ge (tgt := 60) (by decide) dX0_soundAt_46 (fun b7 => ?_) (fun b7 => ?_)
          · skip
            refine aw_iload (x := 7) rfl dX0_soundAt_60 ?_
            refine aw_iconst (v := 1) (by decide) dX0_soundAt_62 ?_
            refine aw_iaddz (z := 8) (by decide) dX0_soundAt_63 ?_
            refine aw_istore_n (L2 := [some (.int 9), some (.int t), some (.int 3), some (.int 8), some (.int 2), some (.int 0), some (.int 7)]) (by decide) rfl rfl dX0_soundAt_64 ?_
            refine aw_iinc (x := 2) (v := 3) (L2 := [some (.int 9), some (.int t), some (.int 3), some (.int 8), some (.int 3), some (.int 0), some (.int 7)]) rfl (by decide) (by decide) rfl rfl dX0_soundAt_65 ?_
            refine aw_goto (tgt := 10) (by decide) dX0_soundAt_68 ?_
            refine aw_iload (x := 3) rfl dX0_soundAt_10 ?_
            refine aw_iload_n (x := 3) rfl dX0_soundAt_12 ?_
            refine aw_icmp_ge (tgt := 71) (by decide) dX0_soundAt_13 (fun _ => ?_) (fun z => absurd z (by decide))
            refine aw_iconst (v := 0) (by decide) dX0_soundAt_71 ?_
            exact aw_iret rfl (by decide) (by decide) dX0_soundAt_72 ⟨by first | rfl | (simp [tc_s9, wd_w_row, row_self, row_row, b1, b2, b5, b6, b7]; done) | (simp_all [tc_s9, wd_w_row, row_self, row_row, b1, b2, b5, b6, b7]; done), by first | rfl | (simp [tc_s9, wd_w_row, row_self, row_row, b1, b2, b5, b6, b7]; done) | (simp_all [tc_s9, wd_w_row, row_self, row_row, b1, b2, b5, b6, b7]; done)⟩
          · skip
            refine aw_iload (x := 0) rfl dX0_soundAt_49 ?_
            refine aw_if_eq (tgt := 58) (by decide) dX0_soundAt_51 (fun _ => ?_) (fun z => absurd z (by decide))
            refine aw_iconst (v := 1) (by decide) dX0_soundAt_58 ?_
            exact aw_iret rfl (by decide) (by decide) dX0_soundAt_59 ⟨by first | rfl | (simp [tc_s9, wd_w_row, row_self, row_row, b1, b2, b5, b6, b7]; done) | (simp_all [tc_s9, wd_w_row, row_self, row_row, b1, b2, b5, b6, b7]; done), by first | rfl | (simp [tc_s9, wd_w_row, row_self, row_row, b1, b2, b5, b6, b7]; done) | (simp_all [tc_s9, wd_w_row, row_self, row_row, b1, b2, b5, b6, b7]; done)⟩
      · skip
        refine aw_iload (x := 1) rfl dX0_soundAt_49 ?_
        refine aw_if_eq (tgt := 58) (by decide) dX0_soundAt_51 (fun z => absurd z (by decide)) (fun _ => ?_)
        refine aw_iconst (v := 2) (by decide) dX0_soundAt_54 ?_
        refine aw_goto (tgt := 59) (by decide) dX0_soundAt_55 ?_
        exact aw_iret rfl (by decide) (by decide) dX0_soundAt_59 ⟨by first | rfl | (simp [tc_s9, wd_w_row, row_self, row_row, b1, b2, b5]; done) | (simp_all [tc_s9, wd_w_row, row_self, row_row, b1, b2, b5]; done), by first | rfl | (simp [tc_s9, wd_w_row, row_self, row_row, b1, b2, b5]; done) | (simp_all [tc_s9, wd_w_row, row_self, row_row, b1, b2, b5]; done)⟩
  · skip
    refine aw_iload_n (x := t) rfl dX0_soundAt_43 ?_
    refine aw_iload (x := 1) rfl dX0_soundAt_44 ?_
    refine aw_icmp_ge (tgt := 60) (by decide) dX0_soundAt_46 (fun b8 => ?_) (fun b8 => ?_)
    · skip
      refine aw_iload (x := 1) rfl dX0_soundAt_60 ?_
      refine aw_iconst (v := 1) (by decide) dX0_soundAt_62 ?_
      refine aw_iaddz (z := 2) (by decide) dX0_soundAt_63 ?_
      refine aw_istore_n (L2 := [some (.int 9), some (.int t), some (.int 3), some (.int 2), some (.int 0), some (.int 0), some (.int 1)]) (by decide) rfl rfl dX0_soundAt_64 ?_
      refine aw_iinc (x := 0) (v := 1) (L2 := [some (.int 9), some (.int t), some (.int 3), some (.int 2), some (.int 1), some (.int 0), some (.int 1)]) rfl (by decide) (by decide) rfl rfl dX0_soundAt_65 ?_
      refine aw_goto (tgt := 10) (by decide) dX0_soundAt_68 ?_
      refine aw_iload (x := 1) rfl dX0_soundAt_10 ?_
      refine aw_iload_n (x := 3) rfl dX0_soundAt_12 ?_
      refine aw_icmp_ge (tgt := 71) (by decide) dX0_soundAt_13 (fun z => absurd z (by decide)) (fun _ => ?_)
      refine aw_iload_n (x := 9) rfl dX0_soundAt_16 ?_
      refine aw_iload (x := 1) rfl dX0_soundAt_17 ?_
      refine aw_rS (v := some (.int 1)) (o2 := o) ct_X0_isLong_9_1 (mm_fit_of cbX0_isLong (by decide) (by decide)) wq309 wq310 rfl rfl (Nat.le_of_ble_eq_true rfl) (by decide) (by decide) rfl dX0_soundAt_19 ?_
      refine aw_istore (L2 := [some (.int 9), some (.int t), some (.int 3), some (.int 2), some (.int 1), some (.int 1), some (.int 1)]) (by decide) rfl rfl dX0_soundAt_22 ?_
      refine aw_iload_n (x := 2) rfl dX0_soundAt_24 ?_
      refine aw_iload (x := 1) rfl dX0_soundAt_25 ?_
      refine aw_if_eq (tgt := 34) (by decide) dX0_soundAt_27 (fun z => absurd z (by decide)) (fun _ => ?_)
      refine aw_iconst (v := 3) (by decide) dX0_soundAt_30 ?_
      refine aw_goto (tgt := 35) (by decide) dX0_soundAt_31 ?_
      refine aw_iaddz (z := 5) (by decide) dX0_soundAt_35 ?_
      refine aw_istore (L2 := [some (.int 9), some (.int t), some (.int 3), some (.int 2), some (.int 1), some (.int 1), some (.int 5)]) (by decide) rfl rfl dX0_soundAt_36 ?_
      refine aw_iload_n (x := t) rfl dX0_soundAt_38 ?_
      refine aw_iload_n (x := 2) rfl dX0_soundAt_39 ?_
      refine aw_icmp_lt (tgt := 60) (by decide) dX0_soundAt_40 (fun b9 => ?_) (fun b9 => ?_)
      · skip
        refine aw_iload (x := 5) rfl dX0_soundAt_60 ?_
        refine aw_iconst (v := 1) (by decide) dX0_soundAt_62 ?_
        refine aw_iaddz (z := 6) (by decide) dX0_soundAt_63 ?_
        refine aw_istore_n (L2 := [some (.int 9), some (.int t), some (.int 3), some (.int 6), some (.int 1), some (.int 1), some (.int 5)]) (by decide) rfl rfl dX0_soundAt_64 ?_
        refine aw_iinc (x := 1) (v := 2) (L2 := [some (.int 9), some (.int t), some (.int 3), some (.int 6), some (.int 2), some (.int 1), some (.int 5)]) rfl (by decide) (by decide) rfl rfl dX0_soundAt_65 ?_
        refine aw_goto (tgt := 10) (by decide) dX0_soundAt_68 ?_
        refine aw_iload (x := 2) rfl dX0_soundAt_10 ?_
        refine aw_iload_n (x := 3) rfl dX0_soundAt_12 ?_
        refine aw_icmp_ge (tgt := 71) (by decide) dX0_soundAt_13 (fun z => absurd z (by decide)) (fun _ => ?_)
        refine aw_iload_n (x := 9) rfl dX0_soundAt_16 ?_
        refine aw_iload (x := 2) rfl dX0_soundAt_17 ?_
        refine aw_rS (v := some (.int 0)) (o2 := o) ct_X0_isLong_9_2 (mm_fit_of cbX0_isLong (by decide) (by decide)) wq309 wq310 rfl rfl (Nat.le_of_ble_eq_true rfl) (by decide) (by decide) rfl dX0_soundAt_19 ?_
        refine aw_istore (L2 := [some (.int 9), some (.int t), some (.int 3), some (.int 6), some (.int 2), some (.int 0), some (.int 5)]) (by decide) rfl rfl dX0_soundAt_22 ?_
        refine aw_iload_n (x := 6) rfl dX0_soundAt_24 ?_
        refine aw_iload (x := 0) rfl dX0_soundAt_25 ?_
        refine aw_if_eq (tgt := 34) (by decide) dX0_soundAt_27 (fun _ => ?_) (fun z => absurd z (by decide))
        refine aw_iconst (v := 1) (by decide) dX0_soundAt_34 ?_
        refine aw_iaddz (z := 7) (by decide) dX0_soundAt_35 ?_
        refine aw_istore (L2 := [some (.int 9), some (.int t), some (.int 3), some (.int 6), some (.int 2), some (.int 0), some (.int 7)]) (by decide) rfl rfl dX0_soundAt_36 ?_
        refine aw_iload_n (x := t) rfl dX0_soundAt_38 ?_
        refine aw_iload_n (x := 6) rfl dX0_soundAt_39 ?_
        refine aw_icmp_lt (tgt := 60) (by decide) dX0_soundAt_40 (fun b10 => ?_) (fun b10 => ?_)
        · skip
          refine aw_iload (x := 7) rfl dX0_soundAt_60 ?_
          refine aw_iconst (v := 1) (by decide) dX0_soundAt_62 ?_
          refine aw_iaddz (z := 8) (by decide) dX0_soundAt_63 ?_
          refine aw_istore_n (L2 := [some (.int 9), some (.int t), some (.int 3), some (.int 8), some (.int 2), some (.int 0), some (.int 7)]) (by decide) rfl rfl dX0_soundAt_64 ?_
          refine aw_iinc (x := 2) (v := 3) (L2 := [some (.int 9), some (.int t), some (.int 3), some (.int 8), some (.int 3), some (.int 0), some (.int 7)]) rfl (by decide) (by decide) rfl rfl dX0_soundAt_65 ?_
          refine aw_goto (tgt := 10) (by decide) dX0_soundAt_68 ?_
          refine aw_iload (x := 3) rfl dX0_soundAt_10 ?_
          refine aw_iload_n (x := 3) rfl dX0_soundAt_12 ?_
          refine aw_icmp_ge (tgt := 71) (by decide) dX0_soundAt_13 (fun _ => ?_) (fun z => absurd z (by decide))
          refine aw_iconst (v := 0) (by decide) dX0_soundAt_71 ?_
          exact aw_iret rfl (by decide) (by decide) dX0_soundAt_72 ⟨by first | rfl | (simp [tc_s9, wd_w_row, row_self, row_row, b1, b8, b9, b10]; done) | (simp_all [tc_s9, wd_w_row, row_self, row_row, b1, b8, b9, b10]; done), by first | rfl | (simp [tc_s9, wd_w_row, row_self, row_row, b1, b8, b9, b10]; done) | (simp_all [tc_s9, wd_w_row, row_self, row_row, b1, b8, b9, b10]; done)⟩
        · skip
          refine aw_iload_n (x := t) rfl dX0_soundAt_43 ?_
          refine aw_iload (x := 7) rfl dX0_soundAt_44 ?_
          refine aw_icmp_ge (tgt := 60) (by decide) dX0_soundAt_46 (fun b11 => ?_) (fun b11 => ?_)
          · skip
            refine aw_iload (x := 7) rfl dX0_soundAt_60 ?_
            refine aw_iconst (v := 1) (by decide) dX0_soundAt_62 ?_
            refine aw_iaddz (z := 8) (by decide) dX0_soundAt_63 ?_
            refine aw_istore_n (L2 := [some (.int 9), some (.int t), some (.int 3), some (.int 8), some (.int 2), some (.int 0), some (.int 7)]) (by decide) rfl rfl dX0_soundAt_64 ?_
            refine aw_iinc (x := 2) (v := 3) (L2 := [some (.int 9), some (.int t), some (.int 3), some (.int 8), some (.int 3), some (.int 0), some (.int 7)]) rfl (by decide) (by decide) rfl rfl dX0_soundAt_65 ?_
            refine aw_goto (tgt := 10) (by decide) dX0_soundAt_68 ?_
            refine aw_iload (x := 3) rfl dX0_soundAt_10 ?_
            refine aw_iload_n (x := 3) rfl dX0_soundAt_12 ?_
            refine aw_icmp_ge (tgt := 71) (by decide) dX0_soundAt_13 (fun _ => ?_) (fun z => absurd z (by decide))
            refine aw_iconst (v := 0) (by decide) dX0_soundAt_71 ?_
            exact aw_iret rfl (by decide) (by decide) dX0_soundAt_72 ⟨by first | rfl | (simp [tc_s9, wd_w_row, row_self, row_row, b1, b8, b9, b10, b11]; done) | (simp_all [tc_s9, wd_w_row, row_self, row_row, b1, b8, b9, b10, b11]; done), by first | rfl | (simp [tc_s9, wd_w_row, row_self, row_row, b1, b8, b9, b10, b11]; done) | (simp_all [tc_s9, wd_w_row, row_self, row_row, b1, b8, b9, b10, b11]; done)⟩
          · skip
            refine aw_iload (x := 0) rfl dX0_soundAt_49 ?_
            refine aw_if_eq (tgt := 58) (by decide) dX0_soundAt_51 (fun _ => ?_) (fun z => absurd z (by decide))
            refine aw_iconst (v := 1) (by decide) dX0_soundAt_58 ?_
            exact aw_iret rfl (by decide) (by decide) dX0_soundAt_59 ⟨by first | rfl | (simp [tc_s9, wd_w_row, row_self, row_row, b1, b8, b9, b10, b11]; done) | (simp_all [tc_s9, wd_w_row, row_self, row_row, b1, b8, b9, b10, b11]; done), by first | rfl | (simp [tc_s9, wd_w_row, row_self, row_row, b1, b8, b9, b10, b11]; done) | (simp_all [tc_s9, wd_w_row, row_self, row_row, b1, b8, b9, b10, b11]; done)⟩
      · skip
        refine aw_iload_n (x := t) rfl dX0_soundAt_43 ?_
        refine aw_iload (x := 5) rfl dX0_soundAt_44 ?_
        refine aw_icmp_ge (tgt := 60) (by decide) dX0_soundAt_46 (fun b12 => ?_) (fun b12 => ?_)
        · skip
          refine aw_iload (x := 5) rfl dX0_soundAt_60 ?_
          refine aw_iconst (v := 1) (by decide) dX0_soundAt_62 ?_
          refine aw_iaddz (z := 6) (by decide) dX0_soundAt_63 ?_
          refine aw_istore_n (L2 := [some (.int 9), some (.int t), some (.int 3), some (.int 6), some (.int 1), some (.int 1), some (.int 5)]) (by decide) rfl rfl dX0_soundAt_64 ?_
          refine aw_iinc (x := 1) (v := 2) (L2 := [some (.int 9), some (.int t), some (.int 3), some (.int 6), some (.int 2), some (.int 1), some (.int 5)]) rfl (by decide) (by decide) rfl rfl dX0_soundAt_65 ?_
          refine aw_goto (tgt := 10) (by decide) dX0_soundAt_68 ?_
          refine aw_iload (x := 2) rfl dX0_soundAt_10 ?_
          refine aw_iload_n (x := 3) rfl dX0_soundAt_12 ?_
          refine aw_icmp_ge (tgt := 71) (by decide) dX0_soundAt_13 (fun z => absurd z (by decide)) (fun _ => ?_)
          refine aw_iload_n (x := 9) rfl dX0_soundAt_16 ?_
          refine aw_iload (x := 2) rfl dX0_soundAt_17 ?_
          refine aw_rS (v := some (.int 0)) (o2 := o) ct_X0_isLong_9_2 (mm_fit_of cbX0_isLong (by decide) (by decide)) wq309 wq310 rfl rfl (Nat.le_of_ble_eq_true rfl) (by decide) (by decide) rfl dX0_soundAt_19 ?_
          refine aw_istore (L2 := [some (.int 9), some (.int t), some (.int 3), some (.int 6), some (.int 2), some (.int 0), some (.int 5)]) (by decide) rfl rfl dX0_soundAt_22 ?_
          refine aw_iload_n (x := 6) rfl dX0_soundAt_24 ?_
          refine aw_iload (x := 0) rfl dX0_soundAt_25 ?_
          refine aw_if_eq (tgt := 34) (by decide) dX0_soundAt_27 (fun _ => ?_) (fun z => absurd z (by decide))
          refine aw_iconst (v := 1) (by decide) dX0_soundAt_34 ?_
          refine aw_iaddz (z := 7) (by decide) dX0_soundAt_35 ?_
          refine aw_istore (L2 := [some (.int 9), some (.int t), some (.int 3), some (.int 6), some (.int 2), some (.int 0), some (.int 7)]) (by decide) rfl rfl dX0_soundAt_36 ?_
          refine aw_iload_n (x := t) rfl dX0_soundAt_38 ?_
          refine aw_iload_n (x := 6) rfl dX0_soundAt_39 ?_
          refine aw_icmp_lt (tgt := 60) (by decide) dX0_soundAt_40 (fun b13 => ?_) (fun b13 => ?_)
          · skip
            refine aw_iload (x := 7) rfl dX0_soundAt_60 ?_
            refine aw_iconst (v := 1) (by decide) dX0_soundAt_62 ?_
            refine aw_iaddz (z := 8) (by decide) dX0_soundAt_63 ?_
            refine aw_istore_n (L2 := [some (.int 9), some (.int t), some (.int 3), some (.int 8), some (.int 2), some (.int 0), some (.int 7)]) (by decide) rfl rfl dX0_soundAt_64 ?_
            refine aw_iinc (x := 2) (v := 3) (L2 := [some (.int 9), some (.int t), some (.int 3), some (.int 8), some (.int 3), some (.int 0), some (.int 7)]) rfl (by decide) (by decide) rfl rfl dX0_soundAt_65 ?_
            refine aw_goto (tgt := 10) (by decide) dX0_soundAt_68 ?_
            refine aw_iload (x := 3) rfl dX0_soundAt_10 ?_
            refine aw_iload_n (x := 3) rfl dX0_soundAt_12 ?_
            refine aw_icmp_ge (tgt := 71) (by decide) dX0_soundAt_13 (fun _ => ?_) (fun z => absurd z (by decide))
            refine aw_iconst (v := 0) (by decide) dX0_soundAt_71 ?_
            exact aw_iret rfl (by decide) (by decide) dX0_soundAt_72 ⟨by first | rfl | (simp [tc_s9, wd_w_row, row_self, row_row, b1, b8, b9, b12, b13]; done) | (simp_all [tc_s9, wd_w_row, row_self, row_row, b1, b8, b9, b12, b13]; done), by first | rfl | (simp [tc_s9, wd_w_row, row_self, row_row, b1, b8, b9, b12, b13]; done) | (simp_all [tc_s9, wd_w_row, row_self, row_row, b1, b8, b9, b12, b13]; done)⟩
          · skip
            refine aw_iload_n (x := t) rfl dX0_soundAt_43 ?_
            refine aw_iload (x := 7) rfl dX0_soundAt_44 ?_
            refine aw_icmp_ge (tgt := 60) (by decide) dX0_soundAt_46 (fun b14 => ?_) (fun b14 => ?_)
            · skip
              refine aw_iload (x := 7) rfl dX0_soundAt_60 ?_
              refine aw_iconst (v := 1) (by decide) dX0_soundAt_62 ?_
              refine aw_iaddz (z := 8) (by decide) dX0_soundAt_63 ?_
              refine aw_istore_n (L2 := [some (.int 9), some (.int t), some (.int 3), some (.int 8), some (.int 2), some (.int 0), some (.int 7)]) (by decide) rfl rfl dX0_soundAt_64 ?_
              refine aw_iinc (x := 2) (v := 3) (L2 := [some (.int 9), some (.int t), some (.int 3), some (.int 8), some (.int 3), some (.int 0), some (.int 7)]) rfl (by decide) (by decide) rfl rfl dX0_soundAt_65 ?_
              refine aw_goto (tgt := 10) (by decide) dX0_soundAt_68 ?_
              refine aw_iload (x := 3) rfl dX0_soundAt_10 ?_
              refine aw_iload_n (x := 3) rfl dX0_soundAt_12 ?_
              refine aw_icmp_ge (tgt := 71) (by decide) dX0_soundAt_13 (fun _ => ?_) (fun z => absurd z (by decide))
              refine aw_iconst (v := 0) (by decide) dX0_soundAt_71 ?_
              exact aw_iret rfl (by decide) (by decide) dX0_soundAt_72 ⟨by first | rfl | (simp [tc_s9, wd_w_row, row_self, row_row, b1, b8, b9, b12, b13, b14]; done) | (simp_all [tc_s9, wd_w_row, row_self, row_row, b1, b8, b9, b12, b13, b14]; done), by first | rfl | (simp [tc_s9, wd_w_row, row_self, row_row, b1, b8, b9, b12, b13, b14]; done) | (simp_all [tc_s9, wd_w_row, row_self, row_row, b1, b8, b9, b12, b13, b14]; done)⟩
            · skip
              refine aw_iload (x := 0) rfl dX0_soundAt_49 ?_
              refine aw_if_eq (tgt := 58) (by decide) dX0_soundAt_51 (fun _ => ?_) (fun z => absurd z (by decide))
              refine aw_iconst (v := 1) (by decide) dX0_soundAt_58 ?_
              exact aw_iret rfl (by decide) (by decide) dX0_soundAt_59 ⟨by first | rfl | (simp [tc_s9, wd_w_row, row_self, row_row, b1, b8, b9, b12, b13, b14]; done) | (simp_all [tc_s9, wd_w_row, row_self, row_row, b1, b8, b9, b12, b13, b14]; done), by first | rfl | (simp [tc_s9, wd_w_row, row_self, row_row, b1, b8, b9, b12, b13, b14]; done) | (simp_all [tc_s9, wd_w_row, row_self, row_row, b1, b8, b9, b12, b13, b14]; done)⟩
        · skip
          refine aw_iload (x := 1) rfl dX0_soundAt_49 ?_
          refine aw_if_eq (tgt := 58) (by decide) dX0_soundAt_51 (fun z => absurd z (by decide)) (fun _ => ?_)
          refine aw_iconst (v := 2) (by decide) dX0_soundAt_54 ?_
          refine aw_goto (tgt := 59) (by decide) dX0_soundAt_55 ?_
          exact aw_iret rfl (by decide) (by decide) dX0_soundAt_59 ⟨by first | rfl | (simp [tc_s9, wd_w_row, row_self, row_row, b1, b8, b9, b12]; done) | (simp_all [tc_s9, wd_w_row, row_self, row_row, b1, b8, b9, b12]; done), by first | rfl | (simp [tc_s9, wd_w_row, row_self, row_row, b1, b8, b9, b12]; done) | (simp_all [tc_s9, wd_w_row, row_self, row_row, b1, b8, b9, b12]; done)⟩
    · skip
      refine aw_iload (x := 0) rfl dX0_soundAt_49 ?_
      refine aw_if_eq (tgt := 58) (by decide) dX0_soundAt_51 (fun _ => ?_) (fun z => absurd z (by decide))
      refine aw_iconst (v := 1) (by decide) dX0_soundAt_58 ?_
      exact aw_iret rfl (by decide) (by decide) dX0_soundAt_59 ⟨by first | rfl | (simp [tc_s9, wd_w_row, row_self, row_row, b1, b8]; done) | (simp_all [tc_s9, wd_w_row, row_self, row_row, b1, b8]; done), by first | rfl | (simp [tc_s9, wd_w_row, row_self, row_row, b1, b8]; done) | (simp_all [tc_s9, wd_w_row, row_self, row_row, b1, b8]; done)⟩
theorem ct_X0_ringCount_10 {ad : Nat → Nat → Nat → Nat} {o : wd_S}  : CT ad MX0_ringCount [.int 10] o (RT (some (.int 3)) o) := by
  refine CT.of (L := [some (.int 10), none]) rfl rfl (by decide) (Nat.le_of_ble_eq_true rfl) rfl ?_
  refine aw_iconst (v := 0) (by decide) dX0_ringCount_0 ?_
  refine aw_istore_n (L2 := [some (.int 10), some (.int 0)]) (by decide) rfl rfl dX0_ringCount_1 ?_
  refine aw_iload_n (x := 0) rfl dX0_ringCount_2 ?_
  refine aw_iconst (v := 3) (by decide) dX0_ringCount_3 ?_
  refine aw_icmp_ge (tgt := 23) (by decide) dX0_ringCount_4 (fun z => absurd z (by decide)) (fun _ => ?_)
  refine aw_iload_n (x := 10) rfl dX0_ringCount_7 ?_
  refine aw_iconst (v := 1) (by decide) dX0_ringCount_8 ?_
  refine aw_iaddz (z := 11) (by decide) dX0_ringCount_9 ?_
  refine aw_iload_n (x := 0) rfl dX0_ringCount_10 ?_
  refine aw_iconst (v := 1) (by decide) dX0_ringCount_11 ?_
  refine aw_iaddz (z := 1) (by decide) dX0_ringCount_12 ?_
  refine aw_ishrz (z := 5) (by decide) dX0_ringCount_13 ?_
  refine aw_if_eq (tgt := 23) (by decide) dX0_ringCount_14 (fun z => absurd z (by decide)) (fun _ => ?_)
  refine aw_iinc (x := 0) (v := 1) (L2 := [some (.int 10), some (.int 1)]) rfl (by decide) (by decide) rfl rfl dX0_ringCount_17 ?_
  refine aw_goto (tgt := 2) (by decide) dX0_ringCount_20 ?_
  refine aw_iload_n (x := 1) rfl dX0_ringCount_2 ?_
  refine aw_iconst (v := 3) (by decide) dX0_ringCount_3 ?_
  refine aw_icmp_ge (tgt := 23) (by decide) dX0_ringCount_4 (fun z => absurd z (by decide)) (fun _ => ?_)
  refine aw_iload_n (x := 10) rfl dX0_ringCount_7 ?_
  refine aw_iconst (v := 1) (by decide) dX0_ringCount_8 ?_
  refine aw_iaddz (z := 11) (by decide) dX0_ringCount_9 ?_
  refine aw_iload_n (x := 1) rfl dX0_ringCount_10 ?_
  refine aw_iconst (v := 1) (by decide) dX0_ringCount_11 ?_
  refine aw_iaddz (z := 2) (by decide) dX0_ringCount_12 ?_
  refine aw_ishrz (z := 2) (by decide) dX0_ringCount_13 ?_
  refine aw_if_eq (tgt := 23) (by decide) dX0_ringCount_14 (fun z => absurd z (by decide)) (fun _ => ?_)
  refine aw_iinc (x := 1) (v := 2) (L2 := [some (.int 10), some (.int 2)]) rfl (by decide) (by decide) rfl rfl dX0_ringCount_17 ?_
  refine aw_goto (tgt := 2) (by decide) dX0_ringCount_20 ?_
  refine aw_iload_n (x := 2) rfl dX0_ringCount_2 ?_
  refine aw_iconst (v := 3) (by decide) dX0_ringCount_3 ?_
  refine aw_icmp_ge (tgt := 23) (by decide) dX0_ringCount_4 (fun z => absurd z (by decide)) (fun _ => ?_)
  refine aw_iload_n (x := 10) rfl dX0_ringCount_7 ?_
  refine aw_iconst (v := 1) (by decide) dX0_ringCount_8 ?_
  refine aw_iaddz (z := 11) (by decide) dX0_ringCount_9 ?_
  refine aw_iload_n (x := 2) rfl dX0_ringCount_10 ?_
  refine aw_iconst (v := 1) (by decide) dX0_ringCount_11 ?_
  refine aw_iaddz (z := 3) (by decide) dX0_ringCount_12 ?_
  refine aw_ishrz (z := 1) (by decide) dX0_ringCount_13 ?_
  refine aw_if_eq (tgt := 23) (by decide) dX0_ringCount_14 (fun z => absurd z (by decide)) (fun _ => ?_)
  refine aw_iinc (x := 2) (v := 3) (L2 := [some (.int 10), some (.int 3)]) rfl (by decide) (by decide) rfl rfl dX0_ringCount_17 ?_
  refine aw_goto (tgt := 2) (by decide) dX0_ringCount_20 ?_
  refine aw_iload_n (x := 3) rfl dX0_ringCount_2 ?_
  refine aw_iconst (v := 3) (by decide) dX0_ringCount_3 ?_
  refine aw_icmp_ge (tgt := 23) (by decide) dX0_ringCount_4 (fun _ => ?_) (fun z => absurd z (by decide))
  refine aw_iload_n (x := 3) rfl dX0_ringCount_23 ?_
  exact aw_iret rfl (by decide) (by decide) dX0_ringCount_24 ⟨by first | rfl | (simp [wd_w_row, row_self, row_row]; done) | (simp_all [wd_w_row, row_self, row_row]; done), by first | rfl | (simp [wd_w_row, row_self, row_row]; done) | (simp_all [wd_w_row, row_self, row_row]; done)⟩
theorem ct_X0_isLong_10_0 {ad : Nat → Nat → Nat → Nat} {o : wd_S}  : CT ad MX0_isLong [.int 10, .int 0] o (RT (some (.int 0)) o) := by
  refine CT.of (L := [some (.int 10), some (.int 0), none]) rfl rfl (by decide) (Nat.le_of_ble_eq_true rfl) rfl ?_
  refine aw_iload_n (x := 10) rfl dX0_isLong_0 ?_
  refine aw_rS (v := some (.int 3)) (o2 := o) ct_X0_ringCount_10 (mm_fit_of cbX0_ringCount (by decide) (by decide)) wq303 wq304 rfl rfl (Nat.le_of_ble_eq_true rfl) (by decide) (by decide) rfl dX0_isLong_1 ?_
  refine aw_iconst (v := 1) (by decide) dX0_isLong_4 ?_
  refine aw_isubz (z := 2) (by decide) dX0_isLong_5 ?_
  refine aw_iload_n (x := 0) rfl dX0_isLong_6 ?_
  refine aw_isubz (z := 2) (by decide) dX0_isLong_7 ?_
  refine aw_istore_n (L2 := [some (.int 10), some (.int 0), some (.int 2)]) (by decide) rfl rfl dX0_isLong_8 ?_
  refine aw_iload_n (x := 10) rfl dX0_isLong_9 ?_
  refine aw_iconst (v := 1) (by decide) dX0_isLong_10 ?_
  refine aw_iaddz (z := 11) (by decide) dX0_isLong_11 ?_
  refine aw_iload_n (x := 2) rfl dX0_isLong_12 ?_
  refine aw_ishrz (z := 2) (by decide) dX0_isLong_13 ?_
  refine aw_iconst (v := 1) (by decide) dX0_isLong_14 ?_
  refine aw_iandz (z := 0) (by decide) dX0_isLong_15 ?_
  refine aw_iconst (v := 1) (by decide) dX0_isLong_16 ?_
  refine aw_icmp_ne (tgt := 24) (by decide) dX0_isLong_17 (fun _ => ?_) (fun z => absurd z (by decide))
  refine aw_iconst (v := 0) (by decide) dX0_isLong_24 ?_
  exact aw_zret rfl (by decide) (by decide) (by decide) dX0_isLong_25 ⟨by first | rfl | (simp [wd_w_row, row_self, row_row]; done) | (simp_all [wd_w_row, row_self, row_row]; done), by first | rfl | (simp [wd_w_row, row_self, row_row]; done) | (simp_all [wd_w_row, row_self, row_row]; done)⟩
theorem ct_X0_isLong_10_1 {ad : Nat → Nat → Nat → Nat} {o : wd_S}  : CT ad MX0_isLong [.int 10, .int 1] o (RT (some (.int 1)) o) := by
  refine CT.of (L := [some (.int 10), some (.int 1), none]) rfl rfl (by decide) (Nat.le_of_ble_eq_true rfl) rfl ?_
  refine aw_iload_n (x := 10) rfl dX0_isLong_0 ?_
  refine aw_rS (v := some (.int 3)) (o2 := o) ct_X0_ringCount_10 (mm_fit_of cbX0_ringCount (by decide) (by decide)) wq303 wq304 rfl rfl (Nat.le_of_ble_eq_true rfl) (by decide) (by decide) rfl dX0_isLong_1 ?_
  refine aw_iconst (v := 1) (by decide) dX0_isLong_4 ?_
  refine aw_isubz (z := 2) (by decide) dX0_isLong_5 ?_
  refine aw_iload_n (x := 1) rfl dX0_isLong_6 ?_
  refine aw_isubz (z := 1) (by decide) dX0_isLong_7 ?_
  refine aw_istore_n (L2 := [some (.int 10), some (.int 1), some (.int 1)]) (by decide) rfl rfl dX0_isLong_8 ?_
  refine aw_iload_n (x := 10) rfl dX0_isLong_9 ?_
  refine aw_iconst (v := 1) (by decide) dX0_isLong_10 ?_
  refine aw_iaddz (z := 11) (by decide) dX0_isLong_11 ?_
  refine aw_iload_n (x := 1) rfl dX0_isLong_12 ?_
  refine aw_ishrz (z := 5) (by decide) dX0_isLong_13 ?_
  refine aw_iconst (v := 1) (by decide) dX0_isLong_14 ?_
  refine aw_iandz (z := 1) (by decide) dX0_isLong_15 ?_
  refine aw_iconst (v := 1) (by decide) dX0_isLong_16 ?_
  refine aw_icmp_ne (tgt := 24) (by decide) dX0_isLong_17 (fun z => absurd z (by decide)) (fun _ => ?_)
  refine aw_iconst (v := 1) (by decide) dX0_isLong_20 ?_
  refine aw_goto (tgt := 25) (by decide) dX0_isLong_21 ?_
  exact aw_zret rfl (by decide) (by decide) (by decide) dX0_isLong_25 ⟨by first | rfl | (simp [wd_w_row, row_self, row_row]; done) | (simp_all [wd_w_row, row_self, row_row]; done), by first | rfl | (simp [wd_w_row, row_self, row_row]; done) | (simp_all [wd_w_row, row_self, row_row]; done)⟩
theorem ct_X0_isLong_10_2 {ad : Nat → Nat → Nat → Nat} {o : wd_S}  : CT ad MX0_isLong [.int 10, .int 2] o (RT (some (.int 1)) o) := by
  refine CT.of (L := [some (.int 10), some (.int 2), none]) rfl rfl (by decide) (Nat.le_of_ble_eq_true rfl) rfl ?_
  refine aw_iload_n (x := 10) rfl dX0_isLong_0 ?_
  refine aw_rS (v := some (.int 3)) (o2 := o) ct_X0_ringCount_10 (mm_fit_of cbX0_ringCount (by decide) (by decide)) wq303 wq304 rfl rfl (Nat.le_of_ble_eq_true rfl) (by decide) (by decide) rfl dX0_isLong_1 ?_
  refine aw_iconst (v := 1) (by decide) dX0_isLong_4 ?_
  refine aw_isubz (z := 2) (by decide) dX0_isLong_5 ?_
  refine aw_iload_n (x := 2) rfl dX0_isLong_6 ?_
  refine aw_isubz (z := 0) (by decide) dX0_isLong_7 ?_
  refine aw_istore_n (L2 := [some (.int 10), some (.int 2), some (.int 0)]) (by decide) rfl rfl dX0_isLong_8 ?_
  refine aw_iload_n (x := 10) rfl dX0_isLong_9 ?_
  refine aw_iconst (v := 1) (by decide) dX0_isLong_10 ?_
  refine aw_iaddz (z := 11) (by decide) dX0_isLong_11 ?_
  refine aw_iload_n (x := 0) rfl dX0_isLong_12 ?_
  refine aw_ishrz (z := 11) (by decide) dX0_isLong_13 ?_
  refine aw_iconst (v := 1) (by decide) dX0_isLong_14 ?_
  refine aw_iandz (z := 1) (by decide) dX0_isLong_15 ?_
  refine aw_iconst (v := 1) (by decide) dX0_isLong_16 ?_
  refine aw_icmp_ne (tgt := 24) (by decide) dX0_isLong_17 (fun z => absurd z (by decide)) (fun _ => ?_)
  refine aw_iconst (v := 1) (by decide) dX0_isLong_20 ?_
  refine aw_goto (tgt := 25) (by decide) dX0_isLong_21 ?_
  exact aw_zret rfl (by decide) (by decide) (by decide) dX0_isLong_25 ⟨by first | rfl | (simp [wd_w_row, row_self, row_row]; done) | (simp_all [wd_w_row, row_self, row_row]; done), by first | rfl | (simp [wd_w_row, row_self, row_row]; done) | (simp_all [wd_w_row, row_self, row_row]; done)⟩
theorem ct_X0_lengthOf_10 {ad : Nat → Nat → Nat → Nat} {o : wd_S}  : CT ad MX0_lengthOf [.int 10] o (RT (some (.int 13)) o) := by
  refine CT.of (L := [some (.int 10), none, none, none]) rfl rfl (by decide) (Nat.le_of_ble_eq_true rfl) rfl ?_
  refine aw_iload_n (x := 10) rfl dX0_lengthOf_0 ?_
  refine aw_rS (v := some (.int 3)) (o2 := o) ct_X0_ringCount_10 (mm_fit_of cbX0_ringCount (by decide) (by decide)) wq303 wq304 rfl rfl (Nat.le_of_ble_eq_true rfl) (by decide) (by decide) rfl dX0_lengthOf_1 ?_
  refine aw_istore_n (L2 := [some (.int 10), some (.int 3), none, none]) (by decide) rfl rfl dX0_lengthOf_4 ?_
  refine aw_iload_n (x := 3) rfl dX0_lengthOf_5 ?_
  refine aw_iconst (v := 1) (by decide) dX0_lengthOf_6 ?_
  refine aw_isubz (z := 2) (by decide) dX0_lengthOf_7 ?_
  refine aw_iconst (v := 1) (by decide) dX0_lengthOf_8 ?_
  refine aw_imulz (z := 2) (by decide) dX0_lengthOf_9 ?_
  refine aw_iconst (v := 4) (by decide) dX0_lengthOf_10 ?_
  refine aw_iaddz (z := 6) (by decide) dX0_lengthOf_11 ?_
  refine aw_istore_n (L2 := [some (.int 10), some (.int 3), some (.int 6), none]) (by decide) rfl rfl dX0_lengthOf_12 ?_
  refine aw_iconst (v := 0) (by decide) dX0_lengthOf_13 ?_
  refine aw_istore_n (L2 := [some (.int 10), some (.int 3), some (.int 6), some (.int 0)]) (by decide) rfl rfl dX0_lengthOf_14 ?_
  refine aw_iload_n (x := 0) rfl dX0_lengthOf_15 ?_
  refine aw_iload_n (x := 3) rfl dX0_lengthOf_16 ?_
  refine aw_icmp_ge (tgt := 45) (by decide) dX0_lengthOf_17 (fun z => absurd z (by decide)) (fun _ => ?_)
  refine aw_iload_n (x := 6) rfl dX0_lengthOf_20 ?_
  refine aw_iload_n (x := 10) rfl dX0_lengthOf_21 ?_
  refine aw_iconst (v := 1) (by decide) dX0_lengthOf_22 ?_
  refine aw_iaddz (z := 11) (by decide) dX0_lengthOf_23 ?_
  refine aw_iload_n (x := 0) rfl dX0_lengthOf_24 ?_
  refine aw_ishrz (z := 11) (by decide) dX0_lengthOf_25 ?_
  refine aw_iconst (v := 1) (by decide) dX0_lengthOf_26 ?_
  refine aw_iandz (z := 1) (by decide) dX0_lengthOf_27 ?_
  refine aw_iconst (v := 1) (by decide) dX0_lengthOf_28 ?_
  refine aw_icmp_ne (tgt := 36) (by decide) dX0_lengthOf_29 (fun z => absurd z (by decide)) (fun _ => ?_)
  refine aw_iconst (v := 3) (by decide) dX0_lengthOf_32 ?_
  refine aw_goto (tgt := 37) (by decide) dX0_lengthOf_33 ?_
  refine aw_iaddz (z := 9) (by decide) dX0_lengthOf_37 ?_
  refine aw_istore_n (L2 := [some (.int 10), some (.int 3), some (.int 9), some (.int 0)]) (by decide) rfl rfl dX0_lengthOf_38 ?_
  refine aw_iinc (x := 0) (v := 1) (L2 := [some (.int 10), some (.int 3), some (.int 9), some (.int 1)]) rfl (by decide) (by decide) rfl rfl dX0_lengthOf_39 ?_
  refine aw_goto (tgt := 15) (by decide) dX0_lengthOf_42 ?_
  refine aw_iload_n (x := 1) rfl dX0_lengthOf_15 ?_
  refine aw_iload_n (x := 3) rfl dX0_lengthOf_16 ?_
  refine aw_icmp_ge (tgt := 45) (by decide) dX0_lengthOf_17 (fun z => absurd z (by decide)) (fun _ => ?_)
  refine aw_iload_n (x := 9) rfl dX0_lengthOf_20 ?_
  refine aw_iload_n (x := 10) rfl dX0_lengthOf_21 ?_
  refine aw_iconst (v := 1) (by decide) dX0_lengthOf_22 ?_
  refine aw_iaddz (z := 11) (by decide) dX0_lengthOf_23 ?_
  refine aw_iload_n (x := 1) rfl dX0_lengthOf_24 ?_
  refine aw_ishrz (z := 5) (by decide) dX0_lengthOf_25 ?_
  refine aw_iconst (v := 1) (by decide) dX0_lengthOf_26 ?_
  refine aw_iandz (z := 1) (by decide) dX0_lengthOf_27 ?_
  refine aw_iconst (v := 1) (by decide) dX0_lengthOf_28 ?_
  refine aw_icmp_ne (tgt := 36) (by decide) dX0_lengthOf_29 (fun z => absurd z (by decide)) (fun _ => ?_)
  refine aw_iconst (v := 3) (by decide) dX0_lengthOf_32 ?_
  refine aw_goto (tgt := 37) (by decide) dX0_lengthOf_33 ?_
  refine aw_iaddz (z := 12) (by decide) dX0_lengthOf_37 ?_
  refine aw_istore_n (L2 := [some (.int 10), some (.int 3), some (.int 12), some (.int 1)]) (by decide) rfl rfl dX0_lengthOf_38 ?_
  refine aw_iinc (x := 1) (v := 2) (L2 := [some (.int 10), some (.int 3), some (.int 12), some (.int 2)]) rfl (by decide) (by decide) rfl rfl dX0_lengthOf_39 ?_
  refine aw_goto (tgt := 15) (by decide) dX0_lengthOf_42 ?_
  refine aw_iload_n (x := 2) rfl dX0_lengthOf_15 ?_
  refine aw_iload_n (x := 3) rfl dX0_lengthOf_16 ?_
  refine aw_icmp_ge (tgt := 45) (by decide) dX0_lengthOf_17 (fun z => absurd z (by decide)) (fun _ => ?_)
  refine aw_iload_n (x := 12) rfl dX0_lengthOf_20 ?_
  refine aw_iload_n (x := 10) rfl dX0_lengthOf_21 ?_
  refine aw_iconst (v := 1) (by decide) dX0_lengthOf_22 ?_
  refine aw_iaddz (z := 11) (by decide) dX0_lengthOf_23 ?_
  refine aw_iload_n (x := 2) rfl dX0_lengthOf_24 ?_
  refine aw_ishrz (z := 2) (by decide) dX0_lengthOf_25 ?_
  refine aw_iconst (v := 1) (by decide) dX0_lengthOf_26 ?_
  refine aw_iandz (z := 0) (by decide) dX0_lengthOf_27 ?_
  refine aw_iconst (v := 1) (by decide) dX0_lengthOf_28 ?_
  refine aw_icmp_ne (tgt := 36) (by decide) dX0_lengthOf_29 (fun _ => ?_) (fun z => absurd z (by decide))
  refine aw_iconst (v := 1) (by decide) dX0_lengthOf_36 ?_
  refine aw_iaddz (z := 13) (by decide) dX0_lengthOf_37 ?_
  refine aw_istore_n (L2 := [some (.int 10), some (.int 3), some (.int 13), some (.int 2)]) (by decide) rfl rfl dX0_lengthOf_38 ?_
  refine aw_iinc (x := 2) (v := 3) (L2 := [some (.int 10), some (.int 3), some (.int 13), some (.int 3)]) rfl (by decide) (by decide) rfl rfl dX0_lengthOf_39 ?_
  refine aw_goto (tgt := 15) (by decide) dX0_lengthOf_42 ?_
  refine aw_iload_n (x := 3) rfl dX0_lengthOf_15 ?_
  refine aw_iload_n (x := 3) rfl dX0_lengthOf_16 ?_
  refine aw_icmp_ge (tgt := 45) (by decide) dX0_lengthOf_17 (fun _ => ?_) (fun z => absurd z (by decide))
  refine aw_iload_n (x := 13) rfl dX0_lengthOf_45 ?_
  exact aw_iret rfl (by decide) (by decide) dX0_lengthOf_46 ⟨by first | rfl | (simp [wd_w_row, row_self, row_row]; done) | (simp_all [wd_w_row, row_self, row_row]; done), by first | rfl | (simp [wd_w_row, row_self, row_row]; done) | (simp_all [wd_w_row, row_self, row_row]; done)⟩
theorem ct_X0_soundAt_10 {ad : Nat → Nat → Nat → Nat} {o : wd_S} {t : Int32} : CT ad MX0_soundAt [.int 10, .int t] o (RT (some (.int (tc_s10 t))) o) := by
  refine CT.of (L := [some (.int 10), some (.int t), none, none, none, none, none]) rfl rfl (by decide) (Nat.le_of_ble_eq_true rfl) rfl ?_
  refine aw_iload_n (x := 10) rfl dX0_soundAt_0 ?_
  refine aw_rS (v := some (.int 3)) (o2 := o) ct_X0_ringCount_10 (mm_fit_of cbX0_ringCount (by decide) (by decide)) wq303 wq304 rfl rfl (Nat.le_of_ble_eq_true rfl) (by decide) (by decide) rfl dX0_soundAt_1 ?_
  refine aw_istore_n (L2 := [some (.int 10), some (.int t), some (.int 3), none, none, none, none]) (by decide) rfl rfl dX0_soundAt_4 ?_
  refine aw_iconst (v := 0) (by decide) dX0_soundAt_5 ?_
  refine aw_istore_n (L2 := [some (.int 10), some (.int t), some (.int 3), some (.int 0), none, none, none]) (by decide) rfl rfl dX0_soundAt_6 ?_
  refine aw_iconst (v := 0) (by decide) dX0_soundAt_7 ?_
  refine aw_istore (L2 := [some (.int 10), some (.int t), some (.int 3), some (.int 0), some (.int 0), none, none]) (by decide) rfl rfl dX0_soundAt_8 ?_
  refine aw_iload (x := 0) rfl dX0_soundAt_10 ?_
  refine aw_iload_n (x := 3) rfl dX0_soundAt_12 ?_
  refine aw_icmp_ge (tgt := 71) (by decide) dX0_soundAt_13 (fun z => absurd z (by decide)) (fun _ => ?_)
  refine aw_iload_n (x := 10) rfl dX0_soundAt_16 ?_
  refine aw_iload (x := 0) rfl dX0_soundAt_17 ?_
  refine aw_rS (v := some (.int 0)) (o2 := o) ct_X0_isLong_10_0 (mm_fit_of cbX0_isLong (by decide) (by decide)) wq309 wq310 rfl rfl (Nat.le_of_ble_eq_true rfl) (by decide) (by decide) rfl dX0_soundAt_19 ?_
  refine aw_istore (L2 := [some (.int 10), some (.int t), some (.int 3), some (.int 0), some (.int 0), some (.int 0), none]) (by decide) rfl rfl dX0_soundAt_22 ?_
  refine aw_iload_n (x := 0) rfl dX0_soundAt_24 ?_
  refine aw_iload (x := 0) rfl dX0_soundAt_25 ?_
  refine aw_if_eq (tgt := 34) (by decide) dX0_soundAt_27 (fun _ => ?_) (fun z => absurd z (by decide))
  refine aw_iconst (v := 1) (by decide) dX0_soundAt_34 ?_
  refine aw_iaddz (z := 1) (by decide) dX0_soundAt_35 ?_
  refine aw_istore (L2 := [some (.int 10), some (.int t), some (.int 3), some (.int 0), some (.int 0), some (.int 0), some (.int 1)]) (by decide) rfl rfl dX0_soundAt_36 ?_
  refine aw_iload_n (x := t) rfl dX0_soundAt_38 ?_
  refine aw_iload_n (x := 0) rfl dX0_soundAt_39 ?_
  refine aw_icmp_lt (tgt := 60) (by decide) dX0_soundAt_40 (fun b1 => ?_) (fun b1 => ?_)
  · skip
    refine aw_iload (x := 1) rfl dX0_soundAt_60 ?_
    refine aw_iconst (v := 1) (by decide) dX0_soundAt_62 ?_
    refine aw_iaddz (z := 2) (by decide) dX0_soundAt_63 ?_
    refine aw_istore_n (L2 := [some (.int 10), some (.int t), some (.int 3), some (.int 2), some (.int 0), some (.int 0), some (.int 1)]) (by decide) rfl rfl dX0_soundAt_64 ?_
    refine aw_iinc (x := 0) (v := 1) (L2 := [some (.int 10), some (.int t), some (.int 3), some (.int 2), some (.int 1), some (.int 0), some (.int 1)]) rfl (by decide) (by decide) rfl rfl dX0_soundAt_65 ?_
    refine aw_goto (tgt := 10) (by decide) dX0_soundAt_68 ?_
    refine aw_iload (x := 1) rfl dX0_soundAt_10 ?_
    refine aw_iload_n (x := 3) rfl dX0_soundAt_12 ?_
    refine aw_icmp_ge (tgt := 71) (by decide) dX0_soundAt_13 (fun z => absurd z (by decide)) (fun _ => ?_)
    refine aw_iload_n (x := 10) rfl dX0_soundAt_16 ?_
    refine aw_iload (x := 1) rfl dX0_soundAt_17 ?_
    refine aw_rS (v := some (.int 1)) (o2 := o) ct_X0_isLong_10_1 (mm_fit_of cbX0_isLong (by decide) (by decide)) wq309 wq310 rfl rfl (Nat.le_of_ble_eq_true rfl) (by decide) (by decide) rfl dX0_soundAt_19 ?_
    refine aw_istore (L2 := [some (.int 10), some (.int t), some (.int 3), some (.int 2), some (.int 1), some (.int 1), some (.int 1)]) (by decide) rfl rfl dX0_soundAt_22 ?_
    refine aw_iload_n (x := 2) rfl dX0_soundAt_24 ?_
    refine aw_iload (x := 1) rfl dX0_soundAt_25 ?_
    refine aw_if_eq (tgt := 34) (by decide) dX0_soundAt_27 (fun z => absurd z (by decide)) (fun _ => ?_)
    refine aw_iconst (v := 3) (by decide) dX0_soundAt_30 ?_
    refine aw_goto (tgt := 35) (by decide) dX0_soundAt_31 ?_
    refine aw_iaddz (z := 5) (by decide) dX0_soundAt_35 ?_
    refine aw_istore (L2 := [some (.int 10), some (.int t), some (.int 3), some (.int 2), some (.int 1), some (.int 1), some (.int 5)]) (by decide) rfl rfl dX0_soundAt_36 ?_
    refine aw_iload_n (x := t) rfl dX0_soundAt_38 ?_
    refine aw_iload_n (x := 2) rfl dX0_soundAt_39 ?_
    refine aw_icmp_lt (tgt := 60) (by decide) dX0_soundAt_40 (fun b2 => ?_) (fun b2 => ?_)
    · skip
      refine aw_iload (x := 5) rfl dX0_soundAt_60 ?_
      refine aw_iconst (v := 1) (by decide) dX0_soundAt_62 ?_
      refine aw_iaddz (z := 6) (by decide) dX0_soundAt_63 ?_
      refine aw_istore_n (L2 := [some (.int 10), some (.int t), some (.int 3), some (.int 6), some (.int 1), some (.int 1), some (.int 5)]) (by decide) rfl rfl dX0_soundAt_64 ?_
      refine aw_iinc (x := 1) (v := 2) (L2 := [some (.int 10), some (.int t), some (.int 3), some (.int 6), some (.int 2), some (.int 1), some (.int 5)]) rfl (by decide) (by decide) rfl rfl dX0_soundAt_65 ?_
      refine aw_goto (tgt := 10) (by decide) dX0_soundAt_68 ?_
      refine aw_iload (x := 2) rfl dX0_soundAt_10 ?_
      refine aw_iload_n (x := 3) rfl dX0_soundAt_12 ?_
      refine aw_icmp_ge (tgt := 71) (by decide) dX0_soundAt_13 (fun z => absurd z (by decide)) (fun _ => ?_)
      refine aw_iload_n (x := 10) rfl dX0_soundAt_16 ?_
      refine aw_iload (x := 2) rfl dX0_soundAt_17 ?_
      refine aw_rS (v := some (.int 1)) (o2 := o) ct_X0_isLong_10_2 (mm_fit_of cbX0_isLong (by decide) (by decide)) wq309 wq310 rfl rfl (Nat.le_of_ble_eq_true rfl) (by decide) (by decide) rfl dX0_soundAt_19 ?_
      refine aw_istore (L2 := [some (.int 10), some (.int t), some (.int 3), some (.int 6), some (.int 2), some (.int 1), some (.int 5)]) (by decide) rfl rfl dX0_soundAt_22 ?_
      refine aw_iload_n (x := 6) rfl dX0_soundAt_24 ?_
      refine aw_iload (x := 1) rfl dX0_soundAt_25 ?_
      refine aw_if_eq (tgt := 34) (by decide) dX0_soundAt_27 (fun z => absurd z (by decide)) (fun _ => ?_)
      refine aw_iconst (v := 3) (by decide) dX0_soundAt_30 ?_
      refine aw_goto (tgt := 35) (by decide) dX0_soundAt_31 ?_
      refine aw_iaddz (z := 9) (by decide) dX0_soundAt_35 ?_
      refine aw_istore (L2 := [some (.int 10), some (.int t), some (.int 3), some (.int 6), some (.int 2), some (.int 1), some (.int 9)]) (by decide) rfl rfl dX0_soundAt_36 ?_
      refine aw_iload_n (x := t) rfl dX0_soundAt_38 ?_
      refine aw_iload_n (x := 6) rfl dX0_soundAt_39 ?_
      refine aw_icmp_lt (tgt := 60) (by decide) dX0_soundAt_40 (fun b3 => ?_) (fun b3 => ?_)
      · skip
        refine aw_iload (x := 9) rfl dX0_soundAt_60 ?_
        refine aw_iconst (v := 1) (by decide) dX0_soundAt_62 ?_
        refine aw_iaddz (z := 10) (by decide) dX0_soundAt_63 ?_
        refine aw_istore_n (L2 := [some (.int 10), some (.int t), some (.int 3), some (.int 10), some (.int 2), some (.int 1), some (.int 9)]) (by decide) rfl rfl dX0_soundAt_64 ?_
        refine aw_iinc (x := 2) (v := 3) (L2 := [some (.int 10), some (.int t), some (.int 3), some (.int 10), some (.int 3), some (.int 1), some (.int 9)]) rfl (by decide) (by decide) rfl rfl dX0_soundAt_65 ?_
        refine aw_goto (tgt := 10) (by decide) dX0_soundAt_68 ?_
        refine aw_iload (x := 3) rfl dX0_soundAt_10 ?_
        refine aw_iload_n (x := 3) rfl dX0_soundAt_12 ?_
        refine aw_icmp_ge (tgt := 71) (by decide) dX0_soundAt_13 (fun _ => ?_) (fun z => absurd z (by decide))
        refine aw_iconst (v := 0) (by decide) dX0_soundAt_71 ?_
        exact aw_iret rfl (by decide) (by decide) dX0_soundAt_72 ⟨by first | rfl | (simp [tc_s10, wd_w_row, row_self, row_row, b1, b2, b3]; done) | (simp_all [tc_s10, wd_w_row, row_self, row_row, b1, b2, b3]; done), by first | rfl | (simp [tc_s10, wd_w_row, row_self, row_row, b1, b2, b3]; done) | (simp_all [tc_s10, wd_w_row, row_self, row_row, b1, b2, b3]; done)⟩
      · skip
        refine aw_iload_n (x := t) rfl dX0_soundAt_43 ?_
        refine aw_iload (x := 9) rfl dX0_soundAt_44 ?_
        refine aw_icmp_ge (tgt := 60) (by decide) dX0_soundAt_46 (fun b4 => ?_) (fun b4 => ?_)
        · skip
          refine aw_iload (x := 9) rfl dX0_soundAt_60 ?_
          refine aw_iconst (v := 1) (by decide) dX0_soundAt_62 ?_
          refine aw_iaddz (z := 10) (by decide) dX0_soundAt_63 ?_
          refine aw_istore_n (L2 := [some (.int 10), some (.int t), some (.int 3), some (.int 10), some (.int 2), some (.int 1), some (.int 9)]) (by decide) rfl rfl dX0_soundAt_64 ?_
          refine aw_iinc (x := 2) (v := 3) (L2 := [some (.int 10), some (.int t), some (.int 3), some (.int 10), some (.int 3), some (.int 1), some (.int 9)]) rfl (by decide) (by decide) rfl rfl dX0_soundAt_65 ?_
          refine aw_goto (tgt := 10) (by decide) dX0_soundAt_68 ?_
          refine aw_iload (x := 3) rfl dX0_soundAt_10 ?_
          refine aw_iload_n (x := 3) rfl dX0_soundAt_12 ?_
          refine aw_icmp_ge (tgt := 71) (by decide) dX0_soundAt_13 (fun _ => ?_) (fun z => absurd z (by decide))
          refine aw_iconst (v := 0) (by decide) dX0_soundAt_71 ?_
          exact aw_iret rfl (by decide) (by decide) dX0_soundAt_72 ⟨by first | rfl | (simp [tc_s10, wd_w_row, row_self, row_row, b1, b2, b3, b4]; done) | (simp_all [tc_s10, wd_w_row, row_self, row_row, b1, b2, b3, b4]; done), by first | rfl | (simp [tc_s10, wd_w_row, row_self, row_row, b1, b2, b3, b4]; done) | (simp_all [tc_s10, wd_w_row, row_self, row_row, b1, b2, b3, b4]; done)⟩
        · skip
          refine aw_iload (x := 1) rfl dX0_soundAt_49 ?_
          refine aw_if_eq (tgt := 58) (by decide) dX0_soundAt_51 (fun z => absurd z (by decide)) (fun _ => ?_)
          refine aw_iconst (v := 2) (by decide) dX0_soundAt_54 ?_
          refine aw_goto (tgt := 59) (by decide) dX0_soundAt_55 ?_
          exact aw_iret rfl (by decide) (by decide) dX0_soundAt_59 ⟨by first | rfl | (simp [tc_s10, wd_w_row, row_self, row_row, b1, b2, b3, b4]; done) | (simp_all [tc_s10, wd_w_row, row_self, row_row, b1, b2, b3, b4]; done), by first | rfl | (simp [tc_s10, wd_w_row, row_self, row_row, b1, b2, b3, b4]; done) | (simp_all [tc_s10, wd_w_row, row_self, row_row, b1, b2, b3, b4]; done)⟩
    · skip
      refine aw_iload_n (x := t) rfl dX0_soundAt_43 ?_
      refine aw_iload (x := 5) rfl dX0_soundAt_44 ?_
      refine aw_icmp_ge (tgt := 60) (by decide) dX0_soundAt_46 (fun b5 => ?_) (fun b5 => ?_)
      · skip
        refine aw_iload (x := 5) rfl dX0_soundAt_60 ?_
        refine aw_iconst (v := 1) (by decide) dX0_soundAt_62 ?_
        refine aw_iaddz (z := 6) (by decide) dX0_soundAt_63 ?_
        refine aw_istore_n (L2 := [some (.int 10), some (.int t), some (.int 3), some (.int 6), some (.int 1), some (.int 1), some (.int 5)]) (by decide) rfl rfl dX0_soundAt_64 ?_
        refine aw_iinc (x := 1) (v := 2) (L2 := [some (.int 10), some (.int t), some (.int 3), some (.int 6), some (.int 2), some (.int 1), some (.int 5)]) rfl (by decide) (by decide) rfl rfl dX0_soundAt_65 ?_
        refine aw_goto (tgt := 10) (by decide) dX0_soundAt_68 ?_
        refine aw_iload (x := 2) rfl dX0_soundAt_10 ?_
        refine aw_iload_n (x := 3) rfl dX0_soundAt_12 ?_
        refine aw_icmp_ge (tgt := 71) (by decide) dX0_soundAt_13 (fun z => absurd z (by decide)) (fun _ => ?_)
        refine aw_iload_n (x := 10) rfl dX0_soundAt_16 ?_
        refine aw_iload (x := 2) rfl dX0_soundAt_17 ?_
        refine aw_rS (v := some (.int 1)) (o2 := o) ct_X0_isLong_10_2 (mm_fit_of cbX0_isLong (by decide) (by decide)) wq309 wq310 rfl rfl (Nat.le_of_ble_eq_true rfl) (by decide) (by decide) rfl dX0_soundAt_19 ?_
        refine aw_istore (L2 := [some (.int 10), some (.int t), some (.int 3), some (.int 6), some (.int 2), some (.int 1), some (.int 5)]) (by decide) rfl rfl dX0_soundAt_22 ?_
        refine aw_iload_n (x := 6) rfl dX0_soundAt_24 ?_
        refine aw_iload (x := 1) rfl dX0_soundAt_25 ?_
        refine aw_if_eq (tgt := 34) (by decide) dX0_soundAt_27 (fun z => absurd z (by decide)) (fun _ => ?_)
        refine aw_iconst (v := 3) (by decide) dX0_soundAt_30 ?_
        refine aw_goto (tgt := 35) (by decide) dX0_soundAt_31 ?_
        refine aw_iaddz (z := 9) (by decide) dX0_soundAt_35 ?_
        refine aw_istore (L2 := [some (.int 10), some (.int t), some (.int 3), some (.int 6), some (.int 2), some (.int 1), some (.int 9)]) (by decide) rfl rfl dX0_soundAt_36 ?_
        refine aw_iload_n (x := t) rfl dX0_soundAt_38 ?_
        refine aw_iload_n (x := 6) rfl dX0_soundAt_39 ?_
        refine aw_icmp_lt (tgt := 60) (by decide) dX0_soundAt_40 (fun b6 => ?_) (fun b6 => ?_)
        · skip
          refine aw_iload (x := 9) rfl dX0_soundAt_60 ?_
          refine aw_iconst (v := 1) (by decide) dX0_soundAt_62 ?_
          refine aw_iaddz (z := 10) (by decide) dX0_soundAt_63 ?_
          refine aw_istore_n (L2 := [some (.int 10), some (.int t), some (.int 3), some (.int 10), some (.int 2), some (.int 1), some (.int 9)]) (by decide) rfl rfl dX0_soundAt_64 ?_
          refine aw_iinc (x := 2) (v := 3) (L2 := [some (.int 10), some (.int t), some (.int 3), some (.int 10), some (.int 3), some (.int 1), some (.int 9)]) rfl (by decide) (by decide) rfl rfl dX0_soundAt_65 ?_
          refine aw_goto (tgt := 10) (by decide) dX0_soundAt_68 ?_
          refine aw_iload (x := 3) rfl dX0_soundAt_10 ?_
          refine aw_iload_n (x := 3) rfl dX0_soundAt_12 ?_
          refine aw_icmp_ge (tgt := 71) (by decide) dX0_soundAt_13 (fun _ => ?_) (fun z => absurd z (by decide))
          refine aw_iconst (v := 0) (by decide) dX0_soundAt_71 ?_
          exact aw_iret rfl (by decide) (by decide) dX0_soundAt_72 ⟨by first | rfl | (simp [tc_s10, wd_w_row, row_self, row_row, b1, b2, b5, b6]; done) | (simp_all [tc_s10, wd_w_row, row_self, row_row, b1, b2, b5, b6]; done), by first | rfl | (simp [tc_s10, wd_w_row, row_self, row_row, b1, b2, b5, b6]; done) | (simp_all [tc_s10, wd_w_row, row_self, row_row, b1, b2, b5, b6]; done)⟩
        · skip
          refine aw_iload_n (x := t) rfl dX0_soundAt_43 ?_
          refine aw_iload (x := 9) rfl dX0_soundAt_44 ?_
          refine aw_icmp_ge (tgt := 60) (by decide) dX0_soundAt_46 (fun b7 => ?_) (fun b7 => ?_)
          · skip
            refine aw_iload (x := 9) rfl dX0_soundAt_60 ?_
            refine aw_iconst (v := 1) (by decide) dX0_soundAt_62 ?_
            refine aw_iaddz (z := 10) (by decide) dX0_soundAt_63 ?_
            refine aw_istore_n (L2 := [some (.int 10), some (.int t), some (.int 3), some (.int 10), some (.int 2), some (.int 1), some (.int 9)]) (by decide) rfl rfl dX0_soundAt_64 ?_
            refine aw_iinc (x := 2) (v := 3) (L2 := [some (.int 10), some (.int t), some (.int 3), some (.int 10), some (.int 3), some (.int 1), some (.int 9)]) rfl (by decide) (by decide) rfl rfl dX0_soundAt_65 ?_
            refine aw_goto (tgt := 10) (by decide) dX0_soundAt_68 ?_
            refine aw_iload (x := 3) rfl dX0_soundAt_10 ?_
            refine aw_iload_n (x := 3) rfl dX0_soundAt_12 ?_
            refine aw_icmp_ge (tgt := 71) (by decide) dX0_soundAt_13 (fun _ => ?_) (fun z => absurd z (by decide))
            refine aw_iconst (v := 0) (by decide) dX0_soundAt_71 ?_
            exact aw_iret rfl (by decide) (by decide) dX0_soundAt_72 ⟨by first | rfl | (simp [tc_s10, wd_w_row, row_self, row_row, b1, b2, b5, b6, b7]; done) | (simp_all [tc_s10, wd_w_row, row_self, row_row, b1, b2, b5, b6, b7]; done), by first | rfl | (simp [tc_s10, wd_w_row, row_self, row_row, b1, b2, b5, b6, b7]; done) | (simp_all [tc_s10, wd_w_row, row_self, row_row, b1, b2, b5, b6, b7]; done)⟩
          · skip
            refine aw_iload (x := 1) rfl dX0_soundAt_49 ?_
            refine aw_if_eq (tgt := 58) (by decide) dX0_soundAt_51 (fun z => absurd z (by decide)) (fun _ => ?_)
            refine aw_iconst (v := 2) (by decide) dX0_soundAt_54 ?_
            refine aw_goto (tgt := 59) (by decide) dX0_soundAt_55 ?_
            exact aw_iret rfl (by decide) (by decide) dX0_soundAt_59 ⟨by first | rfl | (simp [tc_s10, wd_w_row, row_self, row_row, b1, b2, b5, b6, b7]; done) | (simp_all [tc_s10, wd_w_row, row_self, row_row, b1, b2, b5, b6, b7]; done), by first | rfl | (simp [tc_s10, wd_w_row, row_self, row_row, b1, b2, b5, b6, b7]; done) | (simp_all [tc_s10, wd_w_row, row_self, row_row, b1, b2, b5, b6, b7]; done)⟩
      · skip
        refine aw_iload (x := 1) rfl dX0_soundAt_49 ?_
        refine aw_if_eq (tgt := 58) (by decide) dX0_soundAt_51 (fun z => absurd z (by decide)) (fun _ => ?_)
        refine aw_iconst (v := 2) (by decide) dX0_soundAt_54 ?_
        refine aw_goto (tgt := 59) (by decide) dX0_soundAt_55 ?_
        exact aw_iret rfl (by decide) (by decide) dX0_soundAt_59 ⟨by first | rfl | (simp [tc_s10, wd_w_row, row_self, row_row, b1, b2, b5]; done) | (simp_all [tc_s10, wd_w_row, row_self, row_row, b1, b2, b5]; done), by first | rfl | (simp [tc_s10, wd_w_row, row_self, row_row, b1, b2, b5]; done) | (simp_all [tc_s10, wd_w_row, row_self, row_row, b1, b2, b5]; done)⟩
  · skip
    refine aw_iload_n (x := t) rfl dX0_soundAt_43 ?_
    refine aw_iload (x := 1) rfl dX0_soundAt_44 ?_
    refine aw_icmp_ge (tgt := 60) (by decide) dX0_soundAt_46 (fun b8 => ?_) (fun b8 => ?_)
    · skip
      refine aw_iload (x := 1) rfl dX0_soundAt_60 ?_
      refine aw_iconst (v := 1) (by decide) dX0_soundAt_62 ?_
      refine aw_iaddz (z := 2) (by decide) dX0_soundAt_63 ?_
      refine aw_istore_n (L2 := [some (.int 10), some (.int t), some (.int 3), some (.int 2), some (.int 0), some (.int 0), some (.int 1)]) (by decide) rfl rfl dX0_soundAt_64 ?_
      refine aw_iinc (x := 0) (v := 1) (L2 := [some (.int 10), some (.int t), some (.int 3), some (.int 2), some (.int 1), some (.int 0), some (.int 1)]) rfl (by decide) (by decide) rfl rfl dX0_soundAt_65 ?_
      refine aw_goto (tgt := 10) (by decide) dX0_soundAt_68 ?_
      refine aw_iload (x := 1) rfl dX0_soundAt_10 ?_
      refine aw_iload_n (x := 3) rfl dX0_soundAt_12 ?_
      refine aw_icmp_ge (tgt := 71) (by decide) dX0_soundAt_13 (fun z => absurd z (by decide)) (fun _ => ?_)
      refine aw_iload_n (x := 10) rfl dX0_soundAt_16 ?_
      refine aw_iload (x := 1) rfl dX0_soundAt_17 ?_
      refine aw_rS (v := some (.int 1)) (o2 := o) ct_X0_isLong_10_1 (mm_fit_of cbX0_isLong (by decide) (by decide)) wq309 wq310 rfl rfl (Nat.le_of_ble_eq_true rfl) (by decide) (by decide) rfl dX0_soundAt_19 ?_
      refine aw_istore (L2 := [some (.int 10), some (.int t), some (.int 3), some (.int 2), some (.int 1), some (.int 1), some (.int 1)]) (by decide) rfl rfl dX0_soundAt_22 ?_
      refine aw_iload_n (x := 2) rfl dX0_soundAt_24 ?_
      refine aw_iload (x := 1) rfl dX0_soundAt_25 ?_
      refine aw_if_eq (tgt := 34) (by decide) dX0_soundAt_27 (fun z => absurd z (by decide)) (fun _ => ?_)
      refine aw_iconst (v := 3) (by decide) dX0_soundAt_30 ?_
      refine aw_goto (tgt := 35) (by decide) dX0_soundAt_31 ?_
      refine aw_iaddz (z := 5) (by decide) dX0_soundAt_35 ?_
      refine aw_istore (L2 := [some (.int 10), some (.int t), some (.int 3), some (.int 2), some (.int 1), some (.int 1), some (.int 5)]) (by decide) rfl rfl dX0_soundAt_36 ?_
      refine aw_iload_n (x := t) rfl dX0_soundAt_38 ?_
      refine aw_iload_n (x := 2) rfl dX0_soundAt_39 ?_
      refine aw_icmp_lt (tgt := 60) (by decide) dX0_soundAt_40 (fun b9 => ?_) (fun b9 => ?_)
      · skip
        refine aw_iload (x := 5) rfl dX0_soundAt_60 ?_
        refine aw_iconst (v := 1) (by decide) dX0_soundAt_62 ?_
        refine aw_iaddz (z := 6) (by decide) dX0_soundAt_63 ?_
        refine aw_istore_n (L2 := [some (.int 10), some (.int t), some (.int 3), some (.int 6), some (.int 1), some (.int 1), some (.int 5)]) (by decide) rfl rfl dX0_soundAt_64 ?_
        refine aw_iinc (x := 1) (v := 2) (L2 := [some (.int 10), some (.int t), some (.int 3), some (.int 6), some (.int 2), some (.int 1), some (.int 5)]) rfl (by decide) (by decide) rfl rfl dX0_soundAt_65 ?_
        refine aw_goto (tgt := 10) (by decide) dX0_soundAt_68 ?_
        refine aw_iload (x := 2) rfl dX0_soundAt_10 ?_
        refine aw_iload_n (x := 3) rfl dX0_soundAt_12 ?_
        refine aw_icmp_ge (tgt := 71) (by decide) dX0_soundAt_13 (fun z => absurd z (by decide)) (fun _ => ?_)
        refine aw_iload_n (x := 10) rfl dX0_soundAt_16 ?_
        refine aw_iload (x := 2) rfl dX0_soundAt_17 ?_
        refine aw_rS (v := some (.int 1)) (o2 := o) ct_X0_isLong_10_2 (mm_fit_of cbX0_isLong (by decide) (by decide)) wq309 wq310 rfl rfl (Nat.le_of_ble_eq_true rfl) (by decide) (by decide) rfl dX0_soundAt_19 ?_
        refine aw_istore (L2 := [some (.int 10), some (.int t), some (.int 3), some (.int 6), some (.int 2), some (.int 1), some (.int 5)]) (by decide) rfl rfl dX0_soundAt_22 ?_
        refine aw_iload_n (x := 6) rfl dX0_soundAt_24 ?_
        refine aw_iload (x := 1) rfl dX0_soundAt_25 ?_
        refine aw_if_eq (tgt := 34) (by decide) dX0_soundAt_27 (fun z => absurd z (by decide)) (fun _ => ?_)
        refine aw_iconst (v := 3) (by decide) dX0_soundAt_30 ?_
        refine aw_goto (tgt := 35) (by decide) dX0_soundAt_31 ?_
        refine aw_iaddz (z := 9) (by decide) dX0_soundAt_35 ?_
        refine aw_istore (L2 := [some (.int 10), some (.int t), some (.int 3), some (.int 6), some (.int 2), some (.int 1), some (.int 9)]) (by decide) rfl rfl dX0_soundAt_36 ?_
        refine aw_iload_n (x := t) rfl dX0_soundAt_38 ?_
        refine aw_iload_n (x := 6) rfl dX0_soundAt_39 ?_
        refine aw_icmp_lt (tgt := 60) (by decide) dX0_soundAt_40 (fun b10 => ?_) (fun b10 => ?_)
        · skip
          refine aw_iload (x := 9) rfl dX0_soundAt_60 ?_
          refine aw_iconst (v := 1) (by decide) dX0_soundAt_62 ?_
          refine aw_iaddz (z := 10) (by decide) dX0_soundAt_63 ?_
          refine aw_istore_n (L2 := [some (.int 10), some (.int t), some (.int 3), some (.int 10), some (.int 2), some (.int 1), some (.int 9)]) (by decide) rfl rfl dX0_soundAt_64 ?_
          refine aw_iinc (x := 2) (v := 3) (L2 := [some (.int 10), some (.int t), some (.int 3), some (.int 10), some (.int 3), some (.int 1), some (.int 9)]) rfl (by decide) (by decide) rfl rfl dX0_soundAt_65 ?_
          refine aw_goto (tgt := 10) (by decide) dX0_soundAt_68 ?_
          refine aw_iload (x := 3) rfl dX0_soundAt_10 ?_
          refine aw_iload_n (x := 3) rfl dX0_soundAt_12 ?_
          refine aw_icmp_ge (tgt := 71) (by decide) dX0_soundAt_13 (fun _ => ?_) (fun z => absurd z (by decide))
          refine aw_iconst (v := 0) (by decide) dX0_soundAt_71 ?_
          exact aw_iret rfl (by decide) (by decide) dX0_soundAt_72 ⟨by first | rfl | (simp [tc_s10, wd_w_row, row_self, row_row, b1, b8, b9, b10]; done) | (simp_all [tc_s10, wd_w_row, row_self, row_row, b1, b8, b9, b10]; done), by first | rfl | (simp [tc_s10, wd_w_row, row_self, row_row, b1, b8, b9, b10]; done) | (simp_all [tc_s10, wd_w_row, row_self, row_row, b1, b8, b9, b10]; done)⟩
        · skip
          refine aw_iload_n (x := t) rfl dX0_soundAt_43 ?_
          refine aw_iload (x := 9) rfl dX0_soundAt_44 ?_
          refine aw_icmp_ge (tgt := 60) (by decide) dX0_soundAt_46 (fun b11 => ?_) (fun b11 => ?_)
          · skip
            refine aw_iload (x := 9) rfl dX0_soundAt_60 ?_
            refine aw_iconst (v := 1) (by decide) dX0_soundAt_62 ?_
            refine aw_iaddz (z := 10) (by decide) dX0_soundAt_63 ?_
            refine aw_istore_n (L2 := [some (.int 10), some (.int t), some (.int 3), some (.int 10), some (.int 2), some (.int 1), some (.int 9)]) (by decide) rfl rfl dX0_soundAt_64 ?_
            refine aw_iinc (x := 2) (v := 3) (L2 := [some (.int 10), some (.int t), some (.int 3), some (.int 10), some (.int 3), some (.int 1), some (.int 9)]) rfl (by decide) (by decide) rfl rfl dX0_soundAt_65 ?_
            refine aw_goto (tgt := 10) (by decide) dX0_soundAt_68 ?_
            refine aw_iload (x := 3) rfl dX0_soundAt_10 ?_
            refine aw_iload_n (x := 3) rfl dX0_soundAt_12 ?_
            refine aw_icmp_ge (tgt := 71) (by decide) dX0_soundAt_13 (fun _ => ?_) (fun z => absurd z (by decide))
            refine aw_iconst (v := 0) (by decide) dX0_soundAt_71 ?_
            exact aw_iret rfl (by decide) (by decide) dX0_soundAt_72 ⟨by first | rfl | (simp [tc_s10, wd_w_row, row_self, row_row, b1, b8, b9, b10, b11]; done) | (simp_all [tc_s10, wd_w_row, row_self, row_row, b1, b8, b9, b10, b11]; done), by first | rfl | (simp [tc_s10, wd_w_row, row_self, row_row, b1, b8, b9, b10, b11]; done) | (simp_all [tc_s10, wd_w_row, row_self, row_row, b1, b8, b9, b10, b11]; done)⟩
          · skip
            refine aw_iload (x := 1) rfl dX0_soundAt_49 ?_
            refine aw_if_eq (tgt := 58) (by decide) dX0_soundAt_51 (fun z => absurd z (by decide)) (fun _ => ?_)
            refine aw_iconst (v := 2) (by decide) dX0_soundAt_54 ?_
            refine aw_goto (tgt := 59) (by decide) dX0_soundAt_55 ?_
            exact aw_iret rfl (by decide) (by decide) dX0_soundAt_59 ⟨by first | rfl | (simp [tc_s10, wd_w_row, row_self, row_row, b1, b8, b9, b10, b11]; done) | (simp_all [tc_s10, wd_w_row, row_self, row_row, b1, b8, b9, b10, b11]; done), by first | rfl | (simp [tc_s10, wd_w_row, row_self, row_row, b1, b8, b9, b10, b11]; done) | (simp_all [tc_s10, wd_w_row, row_self, row_row, b1, b8, b9, b10, b11]; done)⟩
      · skip
        refine aw_iload_n (x := t) rfl dX0_soundAt_43 ?_
        refine aw_iload (x := 5) rfl dX0_soundAt_44 ?_
        refine aw_icmp_ge (tgt := 60) (by decide) dX0_soundAt_46 (fun b12 => ?_) (fun b12 => ?_)
        · skip
          refine aw_iload (x := 5) rfl dX0_soundAt_60 ?_
          refine aw_iconst (v := 1) (by decide) dX0_soundAt_62 ?_
          refine aw_iaddz (z := 6) (by decide) dX0_soundAt_63 ?_
          refine aw_istore_n (L2 := [some (.int 10), some (.int t), some (.int 3), some (.int 6), some (.int 1), some (.int 1), some (.int 5)]) (by decide) rfl rfl dX0_soundAt_64 ?_
          refine aw_iinc (x := 1) (v := 2) (L2 := [some (.int 10), some (.int t), some (.int 3), some (.int 6), some (.int 2), some (.int 1), some (.int 5)]) rfl (by decide) (by decide) rfl rfl dX0_soundAt_65 ?_
          refine aw_goto (tgt := 10) (by decide) dX0_soundAt_68 ?_
          refine aw_iload (x := 2) rfl dX0_soundAt_10 ?_
          refine aw_iload_n (x := 3) rfl dX0_soundAt_12 ?_
          refine aw_icmp_ge (tgt := 71) (by decide) dX0_soundAt_13 (fun z => absurd z (by decide)) (fun _ => ?_)
          refine aw_iload_n (x := 10) rfl dX0_soundAt_16 ?_
          refine aw_iload (x := 2) rfl dX0_soundAt_17 ?_
          refine aw_rS (v := some (.int 1)) (o2 := o) ct_X0_isLong_10_2 (mm_fit_of cbX0_isLong (by decide) (by decide)) wq309 wq310 rfl rfl (Nat.le_of_ble_eq_true rfl) (by decide) (by decide) rfl dX0_soundAt_19 ?_
          refine aw_istore (L2 := [some (.int 10), some (.int t), some (.int 3), some (.int 6), some (.int 2), some (.int 1), some (.int 5)]) (by decide) rfl rfl dX0_soundAt_22 ?_
          refine aw_iload_n (x := 6) rfl dX0_soundAt_24 ?_
          refine aw_iload (x := 1) rfl dX0_soundAt_25 ?_
          refine aw_if_eq (tgt := 34) (by decide) dX0_soundAt_27 (fun z => absurd z (by decide)) (fun _ => ?_)
          refine aw_iconst (v := 3) (by decide) dX0_soundAt_30 ?_
          refine aw_goto (tgt := 35) (by decide) dX0_soundAt_31 ?_
          refine aw_iaddz (z := 9) (by decide) dX0_soundAt_35 ?_
          refine aw_istore (L2 := [some (.int 10), some (.int t), some (.int 3), some (.int 6), some (.int 2), some (.int 1), some (.int 9)]) (by decide) rfl rfl dX0_soundAt_36 ?_
          refine aw_iload_n (x := t) rfl dX0_soundAt_38 ?_
          refine aw_iload_n (x := 6) rfl dX0_soundAt_39 ?_
          refine aw_icmp_lt (tgt := 60) (by decide) dX0_soundAt_40 (fun b13 => ?_) (fun b13 => ?_)
          · skip
            refine aw_iload (x := 9) rfl dX0_soundAt_60 ?_
            refine aw_iconst (v := 1) (by decide) dX0_soundAt_62 ?_
            refine aw_iaddz (z := 10) (by decide) dX0_soundAt_63 ?_
            refine aw_istore_n (L2 := [some (.int 10), some (.int t), some (.int 3), some (.int 10), some (.int 2), some (.int 1), some (.int 9)]) (by decide) rfl rfl dX0_soundAt_64 ?_
            refine aw_iinc (x := 2) (v := 3) (L2 := [some (.int 10), some (.int t), some (.int 3), some (.int 10), some (.int 3), some (.int 1), some (.int 9)]) rfl (by decide) (by decide) rfl rfl dX0_soundAt_65 ?_
            refine aw_goto (tgt := 10) (by decide) dX0_soundAt_68 ?_
            refine aw_iload (x := 3) rfl dX0_soundAt_10 ?_
            refine aw_iload_n (x := 3) rfl dX0_soundAt_12 ?_
            refine aw_icmp_ge (tgt := 71) (by decide) dX0_soundAt_13 (fun _ => ?_) (fun z => absurd z (by decide))
            refine aw_iconst (v := 0) (by decide) dX0_soundAt_71 ?_
            exact aw_iret rfl (by decide) (by decide) dX0_soundAt_72 ⟨by first | rfl | (simp [tc_s10, wd_w_row, row_self, row_row, b1, b8, b9, b12, b13]; done) | (simp_all [tc_s10, wd_w_row, row_self, row_row, b1, b8, b9, b12, b13]; done), by first | rfl | (simp [tc_s10, wd_w_row, row_self, row_row, b1, b8, b9, b12, b13]; done) | (simp_all [tc_s10, wd_w_row, row_self, row_row, b1, b8, b9, b12, b13]; done)⟩
          · skip
            refine aw_iload_n (x := t) rfl dX0_soundAt_43 ?_
            refine aw_iload (x := 9) rfl dX0_soundAt_44 ?_
            refine aw_icmp_ge (tgt := 60) (by decide) dX0_soundAt_46 (fun b14 => ?_) (fun b14 => ?_)
            · skip
              refine aw_iload (x := 9) rfl dX0_soundAt_60 ?_
              refine aw_iconst (v := 1) (by decide) dX0_soundAt_62 ?_
              refine aw_iaddz (z := 10) (by decide) dX0_soundAt_63 ?_
              refine aw_istore_n (L2 := [some (.int 10), some (.int t), some (.int 3), some (.int 10), some (.int 2), some (.int 1), some (.int 9)]) (by decide) rfl rfl dX0_soundAt_64 ?_
              refine aw_iinc (x := 2) (v := 3) (L2 := [some (.int 10), some (.int t), some (.int 3), some (.int 10), some (.int 3), some (.int 1), some (.int 9)]) rfl (by decide) (by decide) rfl rfl dX0_soundAt_65 ?_
              refine aw_goto (tgt := 10) (by decide) dX0_soundAt_68 ?_
              refine aw_iload (x := 3) rfl dX0_soundAt_10 ?_
              refine aw_iload_n (x := 3) rfl dX0_soundAt_12 ?_
              refine aw_icmp_ge (tgt := 71) (by decide) dX0_soundAt_13 (fun _ => ?_) (fun z => absurd z (by decide))
              refine aw_iconst (v := 0) (by decide) dX0_soundAt_71 ?_
              exact aw_iret rfl (by decide) (by decide) dX0_soundAt_72 ⟨by first | rfl | (simp [tc_s10, wd_w_row, row_self, row_row, b1, b8, b9, b12, b13, b14]; done) | (simp_all [tc_s10, wd_w_row, row_self, row_row, b1, b8, b9, b12, b13, b14]; done), by first | rfl | (simp [tc_s10, wd_w_row, row_self, row_row, b1, b8, b9, b12, b13, b14]; done) | (simp_all [tc_s10, wd_w_row, row_self, row_row, b1, b8, b9, b12, b13, b14]; done)⟩
            · skip
              refine aw_iload (x := 1) rfl dX0_soundAt_49 ?_
              refine aw_if_eq (tgt := 58) (by decide) dX0_soundAt_51 (fun z => absurd z (by decide)) (fun _ => ?_)
              refine aw_iconst (v := 2) (by decide) dX0_soundAt_54 ?_
              refine aw_goto (tgt := 59) (by decide) dX0_soundAt_55 ?_
              exact aw_iret rfl (by decide) (by decide) dX0_soundAt_59 ⟨by first | rfl | (simp [tc_s10, wd_w_row, row_self, row_row, b1, b8, b9, b12, b13, b14]; done) | (simp_all [tc_s10, wd_w_row, row_self, row_row, b1, b8, b9, b12, b13, b14]; done), by first | rfl | (simp [tc_s10, wd_w_row, row_self, row_row, b1, b8, b9, b12, b13, b14]; done) | (simp_all [tc_s10, wd_w_row, row_self, row_row, b1, b8, b9, b12, b13, b14]; done)⟩
        · skip
          refine aw_iload (x := 1) rfl dX0_soundAt_49 ?_
          refine aw_if_eq (tgt := 58) (by decide) dX0_soundAt_51 (fun z => absurd z (by decide)) (fun _ => ?_)
          refine aw_iconst (v := 2) (by decide) dX0_soundAt_54 ?_
          refine aw_goto (tgt := 59) (by decide) dX0_soundAt_55 ?_
          exact aw_iret rfl (by decide) (by decide) dX0_soundAt_59 ⟨by first | rfl | (simp [tc_s10, wd_w_row, row_self, row_row, b1, b8, b9, b12]; done) | (simp_all [tc_s10, wd_w_row, row_self, row_row, b1, b8, b9, b12]; done), by first | rfl | (simp [tc_s10, wd_w_row, row_self, row_row, b1, b8, b9, b12]; done) | (simp_all [tc_s10, wd_w_row, row_self, row_row, b1, b8, b9, b12]; done)⟩
    · skip
      refine aw_iload (x := 0) rfl dX0_soundAt_49 ?_
      refine aw_if_eq (tgt := 58) (by decide) dX0_soundAt_51 (fun _ => ?_) (fun z => absurd z (by decide))
      refine aw_iconst (v := 1) (by decide) dX0_soundAt_58 ?_
      exact aw_iret rfl (by decide) (by decide) dX0_soundAt_59 ⟨by first | rfl | (simp [tc_s10, wd_w_row, row_self, row_row, b1, b8]; done) | (simp_all [tc_s10, wd_w_row, row_self, row_row, b1, b8]; done), by first | rfl | (simp [tc_s10, wd_w_row, row_self, row_row, b1, b8]; done) | (simp_all [tc_s10, wd_w_row, row_self, row_row, b1, b8]; done)⟩
theorem ct_X0_ringCount_11 {ad : Nat → Nat → Nat → Nat} {o : wd_S}  : CT ad MX0_ringCount [.int 11] o (RT (some (.int 3)) o) := by
  refine CT.of (L := [some (.int 11), none]) rfl rfl (by decide) (Nat.le_of_ble_eq_true rfl) rfl ?_
  refine aw_iconst (v := 0) (by decide) dX0_ringCount_0 ?_
  refine aw_istore_n (L2 := [some (.int 11), some (.int 0)]) (by decide) rfl rfl dX0_ringCount_1 ?_
  refine aw_iload_n (x := 0) rfl dX0_ringCount_2 ?_
  refine aw_iconst (v := 3) (by decide) dX0_ringCount_3 ?_
  refine aw_icmp_ge (tgt := 23) (by decide) dX0_ringCount_4 (fun z => absurd z (by decide)) (fun _ => ?_)
  refine aw_iload_n (x := 11) rfl dX0_ringCount_7 ?_
  refine aw_iconst (v := 1) (by decide) dX0_ringCount_8 ?_
  refine aw_iaddz (z := 12) (by decide) dX0_ringCount_9 ?_
  refine aw_iload_n (x := 0) rfl dX0_ringCount_10 ?_
  refine aw_iconst (v := 1) (by decide) dX0_ringCount_11 ?_
  refine aw_iaddz (z := 1) (by decide) dX0_ringCount_12 ?_
  refine aw_ishrz (z := 6) (by decide) dX0_ringCount_13 ?_
  refine aw_if_eq (tgt := 23) (by decide) dX0_ringCount_14 (fun z => absurd z (by decide)) (fun _ => ?_)
  refine aw_iinc (x := 0) (v := 1) (L2 := [some (.int 11), some (.int 1)]) rfl (by decide) (by decide) rfl rfl dX0_ringCount_17 ?_
  refine aw_goto (tgt := 2) (by decide) dX0_ringCount_20 ?_
  refine aw_iload_n (x := 1) rfl dX0_ringCount_2 ?_
  refine aw_iconst (v := 3) (by decide) dX0_ringCount_3 ?_
  refine aw_icmp_ge (tgt := 23) (by decide) dX0_ringCount_4 (fun z => absurd z (by decide)) (fun _ => ?_)
  refine aw_iload_n (x := 11) rfl dX0_ringCount_7 ?_
  refine aw_iconst (v := 1) (by decide) dX0_ringCount_8 ?_
  refine aw_iaddz (z := 12) (by decide) dX0_ringCount_9 ?_
  refine aw_iload_n (x := 1) rfl dX0_ringCount_10 ?_
  refine aw_iconst (v := 1) (by decide) dX0_ringCount_11 ?_
  refine aw_iaddz (z := 2) (by decide) dX0_ringCount_12 ?_
  refine aw_ishrz (z := 3) (by decide) dX0_ringCount_13 ?_
  refine aw_if_eq (tgt := 23) (by decide) dX0_ringCount_14 (fun z => absurd z (by decide)) (fun _ => ?_)
  refine aw_iinc (x := 1) (v := 2) (L2 := [some (.int 11), some (.int 2)]) rfl (by decide) (by decide) rfl rfl dX0_ringCount_17 ?_
  refine aw_goto (tgt := 2) (by decide) dX0_ringCount_20 ?_
  refine aw_iload_n (x := 2) rfl dX0_ringCount_2 ?_
  refine aw_iconst (v := 3) (by decide) dX0_ringCount_3 ?_
  refine aw_icmp_ge (tgt := 23) (by decide) dX0_ringCount_4 (fun z => absurd z (by decide)) (fun _ => ?_)
  refine aw_iload_n (x := 11) rfl dX0_ringCount_7 ?_
  refine aw_iconst (v := 1) (by decide) dX0_ringCount_8 ?_
  refine aw_iaddz (z := 12) (by decide) dX0_ringCount_9 ?_
  refine aw_iload_n (x := 2) rfl dX0_ringCount_10 ?_
  refine aw_iconst (v := 1) (by decide) dX0_ringCount_11 ?_
  refine aw_iaddz (z := 3) (by decide) dX0_ringCount_12 ?_
  refine aw_ishrz (z := 1) (by decide) dX0_ringCount_13 ?_
  refine aw_if_eq (tgt := 23) (by decide) dX0_ringCount_14 (fun z => absurd z (by decide)) (fun _ => ?_)
  refine aw_iinc (x := 2) (v := 3) (L2 := [some (.int 11), some (.int 3)]) rfl (by decide) (by decide) rfl rfl dX0_ringCount_17 ?_
  refine aw_goto (tgt := 2) (by decide) dX0_ringCount_20 ?_
  refine aw_iload_n (x := 3) rfl dX0_ringCount_2 ?_
  refine aw_iconst (v := 3) (by decide) dX0_ringCount_3 ?_
  refine aw_icmp_ge (tgt := 23) (by decide) dX0_ringCount_4 (fun _ => ?_) (fun z => absurd z (by decide))
  refine aw_iload_n (x := 3) rfl dX0_ringCount_23 ?_
  exact aw_iret rfl (by decide) (by decide) dX0_ringCount_24 ⟨by first | rfl | (simp [wd_w_row, row_self, row_row]; done) | (simp_all [wd_w_row, row_self, row_row]; done), by first | rfl | (simp [wd_w_row, row_self, row_row]; done) | (simp_all [wd_w_row, row_self, row_row]; done)⟩
theorem ct_X0_isLong_11_0 {ad : Nat → Nat → Nat → Nat} {o : wd_S}  : CT ad MX0_isLong [.int 11, .int 0] o (RT (some (.int 1)) o) := by
  refine CT.of (L := [some (.int 11), some (.int 0), none]) rfl rfl (by decide) (Nat.le_of_ble_eq_true rfl) rfl ?_
  refine aw_iload_n (x := 11) rfl dX0_isLong_0 ?_
  refine aw_rS (v := some (.int 3)) (o2 := o) ct_X0_ringCount_11 (mm_fit_of cbX0_ringCount (by decide) (by decide)) wq303 wq304 rfl rfl (Nat.le_of_ble_eq_true rfl) (by decide) (by decide) rfl dX0_isLong_1 ?_
  refine aw_iconst (v := 1) (by decide) dX0_isLong_4 ?_
  refine aw_isubz (z := 2) (by decide) dX0_isLong_5 ?_
  refine aw_iload_n (x := 0) rfl dX0_isLong_6 ?_
  refine aw_isubz (z := 2) (by decide) dX0_isLong_7 ?_
  refine aw_istore_n (L2 := [some (.int 11), some (.int 0), some (.int 2)]) (by decide) rfl rfl dX0_isLong_8 ?_
  refine aw_iload_n (x := 11) rfl dX0_isLong_9 ?_
  refine aw_iconst (v := 1) (by decide) dX0_isLong_10 ?_
  refine aw_iaddz (z := 12) (by decide) dX0_isLong_11 ?_
  refine aw_iload_n (x := 2) rfl dX0_isLong_12 ?_
  refine aw_ishrz (z := 3) (by decide) dX0_isLong_13 ?_
  refine aw_iconst (v := 1) (by decide) dX0_isLong_14 ?_
  refine aw_iandz (z := 1) (by decide) dX0_isLong_15 ?_
  refine aw_iconst (v := 1) (by decide) dX0_isLong_16 ?_
  refine aw_icmp_ne (tgt := 24) (by decide) dX0_isLong_17 (fun z => absurd z (by decide)) (fun _ => ?_)
  refine aw_iconst (v := 1) (by decide) dX0_isLong_20 ?_
  refine aw_goto (tgt := 25) (by decide) dX0_isLong_21 ?_
  exact aw_zret rfl (by decide) (by decide) (by decide) dX0_isLong_25 ⟨by first | rfl | (simp [wd_w_row, row_self, row_row]; done) | (simp_all [wd_w_row, row_self, row_row]; done), by first | rfl | (simp [wd_w_row, row_self, row_row]; done) | (simp_all [wd_w_row, row_self, row_row]; done)⟩
theorem ct_X0_isLong_11_1 {ad : Nat → Nat → Nat → Nat} {o : wd_S}  : CT ad MX0_isLong [.int 11, .int 1] o (RT (some (.int 0)) o) := by
  refine CT.of (L := [some (.int 11), some (.int 1), none]) rfl rfl (by decide) (Nat.le_of_ble_eq_true rfl) rfl ?_
  refine aw_iload_n (x := 11) rfl dX0_isLong_0 ?_
  refine aw_rS (v := some (.int 3)) (o2 := o) ct_X0_ringCount_11 (mm_fit_of cbX0_ringCount (by decide) (by decide)) wq303 wq304 rfl rfl (Nat.le_of_ble_eq_true rfl) (by decide) (by decide) rfl dX0_isLong_1 ?_
  refine aw_iconst (v := 1) (by decide) dX0_isLong_4 ?_
  refine aw_isubz (z := 2) (by decide) dX0_isLong_5 ?_
  refine aw_iload_n (x := 1) rfl dX0_isLong_6 ?_
  refine aw_isubz (z := 1) (by decide) dX0_isLong_7 ?_
  refine aw_istore_n (L2 := [some (.int 11), some (.int 1), some (.int 1)]) (by decide) rfl rfl dX0_isLong_8 ?_
  refine aw_iload_n (x := 11) rfl dX0_isLong_9 ?_
  refine aw_iconst (v := 1) (by decide) dX0_isLong_10 ?_
  refine aw_iaddz (z := 12) (by decide) dX0_isLong_11 ?_
  refine aw_iload_n (x := 1) rfl dX0_isLong_12 ?_
  refine aw_ishrz (z := 6) (by decide) dX0_isLong_13 ?_
  refine aw_iconst (v := 1) (by decide) dX0_isLong_14 ?_
  refine aw_iandz (z := 0) (by decide) dX0_isLong_15 ?_
  refine aw_iconst (v := 1) (by decide) dX0_isLong_16 ?_
  refine aw_icmp_ne (tgt := 24) (by decide) dX0_isLong_17 (fun _ => ?_) (fun z => absurd z (by decide))
  refine aw_iconst (v := 0) (by decide) dX0_isLong_24 ?_
  exact aw_zret rfl (by decide) (by decide) (by decide) dX0_isLong_25 ⟨by first | rfl | (simp [wd_w_row, row_self, row_row]; done) | (simp_all [wd_w_row, row_self, row_row]; done), by first | rfl | (simp [wd_w_row, row_self, row_row]; done) | (simp_all [wd_w_row, row_self, row_row]; done)⟩
theorem ct_X0_isLong_11_2 {ad : Nat → Nat → Nat → Nat} {o : wd_S}  : CT ad MX0_isLong [.int 11, .int 2] o (RT (some (.int 0)) o) := by
  refine CT.of (L := [some (.int 11), some (.int 2), none]) rfl rfl (by decide) (Nat.le_of_ble_eq_true rfl) rfl ?_
  refine aw_iload_n (x := 11) rfl dX0_isLong_0 ?_
  refine aw_rS (v := some (.int 3)) (o2 := o) ct_X0_ringCount_11 (mm_fit_of cbX0_ringCount (by decide) (by decide)) wq303 wq304 rfl rfl (Nat.le_of_ble_eq_true rfl) (by decide) (by decide) rfl dX0_isLong_1 ?_
  refine aw_iconst (v := 1) (by decide) dX0_isLong_4 ?_
  refine aw_isubz (z := 2) (by decide) dX0_isLong_5 ?_
  refine aw_iload_n (x := 2) rfl dX0_isLong_6 ?_
  refine aw_isubz (z := 0) (by decide) dX0_isLong_7 ?_
  refine aw_istore_n (L2 := [some (.int 11), some (.int 2), some (.int 0)]) (by decide) rfl rfl dX0_isLong_8 ?_
  refine aw_iload_n (x := 11) rfl dX0_isLong_9 ?_
  refine aw_iconst (v := 1) (by decide) dX0_isLong_10 ?_
  refine aw_iaddz (z := 12) (by decide) dX0_isLong_11 ?_
  refine aw_iload_n (x := 0) rfl dX0_isLong_12 ?_
  refine aw_ishrz (z := 12) (by decide) dX0_isLong_13 ?_
  refine aw_iconst (v := 1) (by decide) dX0_isLong_14 ?_
  refine aw_iandz (z := 0) (by decide) dX0_isLong_15 ?_
  refine aw_iconst (v := 1) (by decide) dX0_isLong_16 ?_
  refine aw_icmp_ne (tgt := 24) (by decide) dX0_isLong_17 (fun _ => ?_) (fun z => absurd z (by decide))
  refine aw_iconst (v := 0) (by decide) dX0_isLong_24 ?_
  exact aw_zret rfl (by decide) (by decide) (by decide) dX0_isLong_25 ⟨by first | rfl | (simp [wd_w_row, row_self, row_row]; done) | (simp_all [wd_w_row, row_self, row_row]; done), by first | rfl | (simp [wd_w_row, row_self, row_row]; done) | (simp_all [wd_w_row, row_self, row_row]; done)⟩
theorem ct_X0_lengthOf_11 {ad : Nat → Nat → Nat → Nat} {o : wd_S}  : CT ad MX0_lengthOf [.int 11] o (RT (some (.int 11)) o) := by
  refine CT.of (L := [some (.int 11), none, none, none]) rfl rfl (by decide) (Nat.le_of_ble_eq_true rfl) rfl ?_
  refine aw_iload_n (x := 11) rfl dX0_lengthOf_0 ?_
  refine aw_rS (v := some (.int 3)) (o2 := o) ct_X0_ringCount_11 (mm_fit_of cbX0_ringCount (by decide) (by decide)) wq303 wq304 rfl rfl (Nat.le_of_ble_eq_true rfl) (by decide) (by decide) rfl dX0_lengthOf_1 ?_
  refine aw_istore_n (L2 := [some (.int 11), some (.int 3), none, none]) (by decide) rfl rfl dX0_lengthOf_4 ?_
  refine aw_iload_n (x := 3) rfl dX0_lengthOf_5 ?_
  refine aw_iconst (v := 1) (by decide) dX0_lengthOf_6 ?_
  refine aw_isubz (z := 2) (by decide) dX0_lengthOf_7 ?_
  refine aw_iconst (v := 1) (by decide) dX0_lengthOf_8 ?_
  refine aw_imulz (z := 2) (by decide) dX0_lengthOf_9 ?_
  refine aw_iconst (v := 4) (by decide) dX0_lengthOf_10 ?_
  refine aw_iaddz (z := 6) (by decide) dX0_lengthOf_11 ?_
  refine aw_istore_n (L2 := [some (.int 11), some (.int 3), some (.int 6), none]) (by decide) rfl rfl dX0_lengthOf_12 ?_
  refine aw_iconst (v := 0) (by decide) dX0_lengthOf_13 ?_
  refine aw_istore_n (L2 := [some (.int 11), some (.int 3), some (.int 6), some (.int 0)]) (by decide) rfl rfl dX0_lengthOf_14 ?_
  refine aw_iload_n (x := 0) rfl dX0_lengthOf_15 ?_
  refine aw_iload_n (x := 3) rfl dX0_lengthOf_16 ?_
  refine aw_icmp_ge (tgt := 45) (by decide) dX0_lengthOf_17 (fun z => absurd z (by decide)) (fun _ => ?_)
  refine aw_iload_n (x := 6) rfl dX0_lengthOf_20 ?_
  refine aw_iload_n (x := 11) rfl dX0_lengthOf_21 ?_
  refine aw_iconst (v := 1) (by decide) dX0_lengthOf_22 ?_
  refine aw_iaddz (z := 12) (by decide) dX0_lengthOf_23 ?_
  refine aw_iload_n (x := 0) rfl dX0_lengthOf_24 ?_
  refine aw_ishrz (z := 12) (by decide) dX0_lengthOf_25 ?_
  refine aw_iconst (v := 1) (by decide) dX0_lengthOf_26 ?_
  refine aw_iandz (z := 0) (by decide) dX0_lengthOf_27 ?_
  refine aw_iconst (v := 1) (by decide) dX0_lengthOf_28 ?_
  refine aw_icmp_ne (tgt := 36) (by decide) dX0_lengthOf_29 (fun _ => ?_) (fun z => absurd z (by decide))
  refine aw_iconst (v := 1) (by decide) dX0_lengthOf_36 ?_
  refine aw_iaddz (z := 7) (by decide) dX0_lengthOf_37 ?_
  refine aw_istore_n (L2 := [some (.int 11), some (.int 3), some (.int 7), some (.int 0)]) (by decide) rfl rfl dX0_lengthOf_38 ?_
  refine aw_iinc (x := 0) (v := 1) (L2 := [some (.int 11), some (.int 3), some (.int 7), some (.int 1)]) rfl (by decide) (by decide) rfl rfl dX0_lengthOf_39 ?_
  refine aw_goto (tgt := 15) (by decide) dX0_lengthOf_42 ?_
  refine aw_iload_n (x := 1) rfl dX0_lengthOf_15 ?_
  refine aw_iload_n (x := 3) rfl dX0_lengthOf_16 ?_
  refine aw_icmp_ge (tgt := 45) (by decide) dX0_lengthOf_17 (fun z => absurd z (by decide)) (fun _ => ?_)
  refine aw_iload_n (x := 7) rfl dX0_lengthOf_20 ?_
  refine aw_iload_n (x := 11) rfl dX0_lengthOf_21 ?_
  refine aw_iconst (v := 1) (by decide) dX0_lengthOf_22 ?_
  refine aw_iaddz (z := 12) (by decide) dX0_lengthOf_23 ?_
  refine aw_iload_n (x := 1) rfl dX0_lengthOf_24 ?_
  refine aw_ishrz (z := 6) (by decide) dX0_lengthOf_25 ?_
  refine aw_iconst (v := 1) (by decide) dX0_lengthOf_26 ?_
  refine aw_iandz (z := 0) (by decide) dX0_lengthOf_27 ?_
  refine aw_iconst (v := 1) (by decide) dX0_lengthOf_28 ?_
  refine aw_icmp_ne (tgt := 36) (by decide) dX0_lengthOf_29 (fun _ => ?_) (fun z => absurd z (by decide))
  refine aw_iconst (v := 1) (by decide) dX0_lengthOf_36 ?_
  refine aw_iaddz (z := 8) (by decide) dX0_lengthOf_37 ?_
  refine aw_istore_n (L2 := [some (.int 11), some (.int 3), some (.int 8), some (.int 1)]) (by decide) rfl rfl dX0_lengthOf_38 ?_
  refine aw_iinc (x := 1) (v := 2) (L2 := [some (.int 11), some (.int 3), some (.int 8), some (.int 2)]) rfl (by decide) (by decide) rfl rfl dX0_lengthOf_39 ?_
  refine aw_goto (tgt := 15) (by decide) dX0_lengthOf_42 ?_
  refine aw_iload_n (x := 2) rfl dX0_lengthOf_15 ?_
  refine aw_iload_n (x := 3) rfl dX0_lengthOf_16 ?_
  refine aw_icmp_ge (tgt := 45) (by decide) dX0_lengthOf_17 (fun z => absurd z (by decide)) (fun _ => ?_)
  refine aw_iload_n (x := 8) rfl dX0_lengthOf_20 ?_
  refine aw_iload_n (x := 11) rfl dX0_lengthOf_21 ?_
  refine aw_iconst (v := 1) (by decide) dX0_lengthOf_22 ?_
  refine aw_iaddz (z := 12) (by decide) dX0_lengthOf_23 ?_
  refine aw_iload_n (x := 2) rfl dX0_lengthOf_24 ?_
  refine aw_ishrz (z := 3) (by decide) dX0_lengthOf_25 ?_
  refine aw_iconst (v := 1) (by decide) dX0_lengthOf_26 ?_
  refine aw_iandz (z := 1) (by decide) dX0_lengthOf_27 ?_
  refine aw_iconst (v := 1) (by decide) dX0_lengthOf_28 ?_
  refine aw_icmp_ne (tgt := 36) (by decide) dX0_lengthOf_29 (fun z => absurd z (by decide)) (fun _ => ?_)
  refine aw_iconst (v := 3) (by decide) dX0_lengthOf_32 ?_
  refine aw_goto (tgt := 37) (by decide) dX0_lengthOf_33 ?_
  refine aw_iaddz (z := 11) (by decide) dX0_lengthOf_37 ?_
  refine aw_istore_n (L2 := [some (.int 11), some (.int 3), some (.int 11), some (.int 2)]) (by decide) rfl rfl dX0_lengthOf_38 ?_
  refine aw_iinc (x := 2) (v := 3) (L2 := [some (.int 11), some (.int 3), some (.int 11), some (.int 3)]) rfl (by decide) (by decide) rfl rfl dX0_lengthOf_39 ?_
  refine aw_goto (tgt := 15) (by decide) dX0_lengthOf_42 ?_
  refine aw_iload_n (x := 3) rfl dX0_lengthOf_15 ?_
  refine aw_iload_n (x := 3) rfl dX0_lengthOf_16 ?_
  refine aw_icmp_ge (tgt := 45) (by decide) dX0_lengthOf_17 (fun _ => ?_) (fun z => absurd z (by decide))
  refine aw_iload_n (x := 11) rfl dX0_lengthOf_45 ?_
  exact aw_iret rfl (by decide) (by decide) dX0_lengthOf_46 ⟨by first | rfl | (simp [wd_w_row, row_self, row_row]; done) | (simp_all [wd_w_row, row_self, row_row]; done), by first | rfl | (simp [wd_w_row, row_self, row_row]; done) | (simp_all [wd_w_row, row_self, row_row]; done)⟩
theorem ct_X0_soundAt_11 {ad : Nat → Nat → Nat → Nat} {o : wd_S} {t : Int32} : CT ad MX0_soundAt [.int 11, .int t] o (RT (some (.int (tc_s11 t))) o) := by
  refine CT.of (L := [some (.int 11), some (.int t), none, none, none, none, none]) rfl rfl (by decide) (Nat.le_of_ble_eq_true rfl) rfl ?_
  refine aw_iload_n (x := 11) rfl dX0_soundAt_0 ?_
  refine aw_rS (v := some (.int 3)) (o2 := o) ct_X0_ringCount_11 (mm_fit_of cbX0_ringCount (by decide) (by decide)) wq303 wq304 rfl rfl (Nat.le_of_ble_eq_true rfl) (by decide) (by decide) rfl dX0_soundAt_1 ?_
  refine aw_istore_n (L2 := [some (.int 11), some (.int t), some (.int 3), none, none, none, none]) (by decide) rfl rfl dX0_soundAt_4 ?_
  refine aw_iconst (v := 0) (by decide) dX0_soundAt_5 ?_
  refine aw_istore_n (L2 := [some (.int 11), some (.int t), some (.int 3), some (.int 0), none, none, none]) (by decide) rfl rfl dX0_soundAt_6 ?_
  refine aw_iconst (v := 0) (by decide) dX0_soundAt_7 ?_
  refine aw_istore (L2 := [some (.int 11), some (.int t), some (.int 3), some (.int 0), some (.int 0), none, none]) (by decide) rfl rfl dX0_soundAt_8 ?_
  refine aw_iload (x := 0) rfl dX0_soundAt_10 ?_
  refine aw_iload_n (x := 3) rfl dX0_soundAt_12 ?_
  refine aw_icmp_ge (tgt := 71) (by decide) dX0_soundAt_13 (fun z => absurd z (by decide)) (fun _ => ?_)
  refine aw_iload_n (x := 11) rfl dX0_soundAt_16 ?_
  refine aw_iload (x := 0) rfl dX0_soundAt_17 ?_
  refine aw_rS (v := some (.int 1)) (o2 := o) ct_X0_isLong_11_0 (mm_fit_of cbX0_isLong (by decide) (by decide)) wq309 wq310 rfl rfl (Nat.le_of_ble_eq_true rfl) (by decide) (by decide) rfl dX0_soundAt_19 ?_
  refine aw_istore (L2 := [some (.int 11), some (.int t), some (.int 3), some (.int 0), some (.int 0), some (.int 1), none]) (by decide) rfl rfl dX0_soundAt_22 ?_
  refine aw_iload_n (x := 0) rfl dX0_soundAt_24 ?_
  refine aw_iload (x := 1) rfl dX0_soundAt_25 ?_
  refine aw_if_eq (tgt := 34) (by decide) dX0_soundAt_27 (fun z => absurd z (by decide)) (fun _ => ?_)
  refine aw_iconst (v := 3) (by decide) dX0_soundAt_30 ?_
  refine aw_goto (tgt := 35) (by decide) dX0_soundAt_31 ?_
  refine aw_iaddz (z := 3) (by decide) dX0_soundAt_35 ?_
  refine aw_istore (L2 := [some (.int 11), some (.int t), some (.int 3), some (.int 0), some (.int 0), some (.int 1), some (.int 3)]) (by decide) rfl rfl dX0_soundAt_36 ?_
  refine aw_iload_n (x := t) rfl dX0_soundAt_38 ?_
  refine aw_iload_n (x := 0) rfl dX0_soundAt_39 ?_
  refine aw_icmp_lt (tgt := 60) (by decide) dX0_soundAt_40 (fun b1 => ?_) (fun b1 => ?_)
  · skip
    refine aw_iload (x := 3) rfl dX0_soundAt_60 ?_
    refine aw_iconst (v := 1) (by decide) dX0_soundAt_62 ?_
    refine aw_iaddz (z := 4) (by decide) dX0_soundAt_63 ?_
    refine aw_istore_n (L2 := [some (.int 11), some (.int t), some (.int 3), some (.int 4), some (.int 0), some (.int 1), some (.int 3)]) (by decide) rfl rfl dX0_soundAt_64 ?_
    refine aw_iinc (x := 0) (v := 1) (L2 := [some (.int 11), some (.int t), some (.int 3), some (.int 4), some (.int 1), some (.int 1), some (.int 3)]) rfl (by decide) (by decide) rfl rfl dX0_soundAt_65 ?_
    refine aw_goto (tgt := 10) (by decide) dX0_soundAt_68 ?_
    refine aw_iload (x := 1) rfl dX0_soundAt_10 ?_
    refine aw_iload_n (x := 3) rfl dX0_soundAt_12 ?_
    refine aw_icmp_ge (tgt := 71) (by decide) dX0_soundAt_13 (fun z => absurd z (by decide)) (fun _ => ?_)
    refine aw_iload_n (x := 11) rfl dX0_soundAt_16 ?_
    refine aw_iload (x := 1) rfl dX0_soundAt_17 ?_
    refine aw_rS (v := some (.int 0)) (o2 := o) ct_X0_isLong_11_1 (mm_fit_of cbX0_isLong (by decide) (by decide)) wq309 wq310 rfl rfl (Nat.le_of_ble_eq_true rfl) (by decide) (by decide) rfl dX0_soundAt_19 ?_
    refine aw_istore (L2 := [some (.int 11), some (.int t), some (.int 3), some (.int 4), some (.int 1), some (.int 0), some (.int 3)]) (by decide) rfl rfl dX0_soundAt_22 ?_
    refine aw_iload_n (x := 4) rfl dX0_soundAt_24 ?_
    refine aw_iload (x := 0) rfl dX0_soundAt_25 ?_
    refine aw_if_eq (tgt := 34) (by decide) dX0_soundAt_27 (fun _ => ?_) (fun z => absurd z (by decide))
    refine aw_iconst (v := 1) (by decide) dX0_soundAt_34 ?_
    refine aw_iaddz (z := 5) (by decide) dX0_soundAt_35 ?_
    refine aw_istore (L2 := [some (.int 11), some (.int t), some (.int 3), some (.int 4), some (.int 1), some (.int 0), some (.int 5)]) (by decide) rfl rfl dX0_soundAt_36 ?_
    refine aw_iload_n (x := t) rfl dX0_soundAt_38 ?_
    refine aw_iload_n (x := 4) rfl dX0_soundAt_39 ?_
    refine aw_icmp_lt (tgt := 60) (by decide) dX0_soundAt_40 (fun b2 => ?_) (fun b2 => ?_)
    · skip
      refine aw_iload (x := 5) rfl dX0_soundAt_60 ?_
      refine aw_iconst (v := 1) (by decide) dX0_soundAt_62 ?_
      refine aw_iaddz (z := 6) (by decide) dX0_soundAt_63 ?_
      refine aw_istore_n (L2 := [some (.int 11), some (.int t), some (.int 3), some (.int 6), some (.int 1), some (.int 0), some (.int 5)]) (by decide) rfl rfl dX0_soundAt_64 ?_
      refine aw_iinc (x := 1) (v := 2) (L2 := [some (.int 11), some (.int t), some (.int 3), some (.int 6), some (.int 2), some (.int 0), some (.int 5)]) rfl (by decide) (by decide) rfl rfl dX0_soundAt_65 ?_
      refine aw_goto (tgt := 10) (by decide) dX0_soundAt_68 ?_
      refine aw_iload (x := 2) rfl dX0_soundAt_10 ?_
      refine aw_iload_n (x := 3) rfl dX0_soundAt_12 ?_
      refine aw_icmp_ge (tgt := 71) (by decide) dX0_soundAt_13 (fun z => absurd z (by decide)) (fun _ => ?_)
      refine aw_iload_n (x := 11) rfl dX0_soundAt_16 ?_
      refine aw_iload (x := 2) rfl dX0_soundAt_17 ?_
      refine aw_rS (v := some (.int 0)) (o2 := o) ct_X0_isLong_11_2 (mm_fit_of cbX0_isLong (by decide) (by decide)) wq309 wq310 rfl rfl (Nat.le_of_ble_eq_true rfl) (by decide) (by decide) rfl dX0_soundAt_19 ?_
      refine aw_istore (L2 := [some (.int 11), some (.int t), some (.int 3), some (.int 6), some (.int 2), some (.int 0), some (.int 5)]) (by decide) rfl rfl dX0_soundAt_22 ?_
      refine aw_iload_n (x := 6) rfl dX0_soundAt_24 ?_
      refine aw_iload (x := 0) rfl dX0_soundAt_25 ?_
      refine aw_if_eq (tgt := 34) (by decide) dX0_soundAt_27 (fun _ => ?_) (fun z => absurd z (by decide))
      refine aw_iconst (v := 1) (by decide) dX0_soundAt_34 ?_
      refine aw_iaddz (z := 7) (by decide) dX0_soundAt_35 ?_
      refine aw_istore (L2 := [some (.int 11), some (.int t), some (.int 3), some (.int 6), some (.int 2), some (.int 0), some (.int 7)]) (by decide) rfl rfl dX0_soundAt_36 ?_
      refine aw_iload_n (x := t) rfl dX0_soundAt_38 ?_
      refine aw_iload_n (x := 6) rfl dX0_soundAt_39 ?_
      refine aw_icmp_lt (tgt := 60) (by decide) dX0_soundAt_40 (fun b3 => ?_) (fun b3 => ?_)
      · skip
        refine aw_iload (x := 7) rfl dX0_soundAt_60 ?_
        refine aw_iconst (v := 1) (by decide) dX0_soundAt_62 ?_
        refine aw_iaddz (z := 8) (by decide) dX0_soundAt_63 ?_
        refine aw_istore_n (L2 := [some (.int 11), some (.int t), some (.int 3), some (.int 8), some (.int 2), some (.int 0), some (.int 7)]) (by decide) rfl rfl dX0_soundAt_64 ?_
        refine aw_iinc (x := 2) (v := 3) (L2 := [some (.int 11), some (.int t), some (.int 3), some (.int 8), some (.int 3), some (.int 0), some (.int 7)]) rfl (by decide) (by decide) rfl rfl dX0_soundAt_65 ?_
        refine aw_goto (tgt := 10) (by decide) dX0_soundAt_68 ?_
        refine aw_iload (x := 3) rfl dX0_soundAt_10 ?_
        refine aw_iload_n (x := 3) rfl dX0_soundAt_12 ?_
        refine aw_icmp_ge (tgt := 71) (by decide) dX0_soundAt_13 (fun _ => ?_) (fun z => absurd z (by decide))
        refine aw_iconst (v := 0) (by decide) dX0_soundAt_71 ?_
        exact aw_iret rfl (by decide) (by decide) dX0_soundAt_72 ⟨by first | rfl | (simp [tc_s11, wd_w_row, row_self, row_row, b1, b2, b3]; done) | (simp_all [tc_s11, wd_w_row, row_self, row_row, b1, b2, b3]; done), by first | rfl | (simp [tc_s11, wd_w_row, row_self, row_row, b1, b2, b3]; done) | (simp_all [tc_s11, wd_w_row, row_self, row_row, b1, b2, b3]; done)⟩
      · skip
        refine aw_iload_n (x := t) rfl dX0_soundAt_43 ?_
        refine aw_iload (x := 7) rfl dX0_soundAt_44 ?_
        refine aw_icmp_ge (tgt := 60) (by decide) dX0_soundAt_46 (fun b4 => ?_) (fun b4 => ?_)
        · skip
          refine aw_iload (x := 7) rfl dX0_soundAt_60 ?_
          refine aw_iconst (v := 1) (by decide) dX0_soundAt_62 ?_
          refine aw_iaddz (z := 8) (by decide) dX0_soundAt_63 ?_
          refine aw_istore_n (L2 := [some (.int 11), some (.int t), some (.int 3), some (.int 8), some (.int 2), some (.int 0), some (.int 7)]) (by decide) rfl rfl dX0_soundAt_64 ?_
          refine aw_iinc (x := 2) (v := 3) (L2 := [some (.int 11), some (.int t), some (.int 3), some (.int 8), some (.int 3), some (.int 0), some (.int 7)]) rfl (by decide) (by decide) rfl rfl dX0_soundAt_65 ?_
          refine aw_goto (tgt := 10) (by decide) dX0_soundAt_68 ?_
          refine aw_iload (x := 3) rfl dX0_soundAt_10 ?_
          refine aw_iload_n (x := 3) rfl dX0_soundAt_12 ?_
          refine aw_icmp_ge (tgt := 71) (by decide) dX0_soundAt_13 (fun _ => ?_) (fun z => absurd z (by decide))
          refine aw_iconst (v := 0) (by decide) dX0_soundAt_71 ?_
          exact aw_iret rfl (by decide) (by decide) dX0_soundAt_72 ⟨by first | rfl | (simp [tc_s11, wd_w_row, row_self, row_row, b1, b2, b3, b4]; done) | (simp_all [tc_s11, wd_w_row, row_self, row_row, b1, b2, b3, b4]; done), by first | rfl | (simp [tc_s11, wd_w_row, row_self, row_row, b1, b2, b3, b4]; done) | (simp_all [tc_s11, wd_w_row, row_self, row_row, b1, b2, b3, b4]; done)⟩
        · skip
          refine aw_iload (x := 0) rfl dX0_soundAt_49 ?_
          refine aw_if_eq (tgt := 58) (by decide) dX0_soundAt_51 (fun _ => ?_) (fun z => absurd z (by decide))
          refine aw_iconst (v := 1) (by decide) dX0_soundAt_58 ?_
          exact aw_iret rfl (by decide) (by decide) dX0_soundAt_59 ⟨by first | rfl | (simp [tc_s11, wd_w_row, row_self, row_row, b1, b2, b3, b4]; done) | (simp_all [tc_s11, wd_w_row, row_self, row_row, b1, b2, b3, b4]; done), by first | rfl | (simp [tc_s11, wd_w_row, row_self, row_row, b1, b2, b3, b4]; done) | (simp_all [tc_s11, wd_w_row, row_self, row_row, b1, b2, b3, b4]; done)⟩
    · skip
      refine aw_iload_n (x := t) rfl dX0_soundAt_43 ?_
      refine aw_iload (x := 5) rfl dX0_soundAt_44 ?_
      refine aw_icmp_ge (tgt := 60) (by decide) dX0_soundAt_46 (fun b5 => ?_) (fun b5 => ?_)
      · skip
        refine aw_iload (x := 5) rfl dX0_soundAt_60 ?_
        refine aw_iconst (v := 1) (by decide) dX0_soundAt_62 ?_
        refine aw_iaddz (z := 6) (by decide) dX0_soundAt_63 ?_
        refine aw_istore_n (L2 := [some (.int 11), some (.int t), some (.int 3), some (.int 6), some (.int 1), some (.int 0), some (.int 5)]) (by decide) rfl rfl dX0_soundAt_64 ?_
        refine aw_iinc (x := 1) (v := 2) (L2 := [some (.int 11), some (.int t), some (.int 3), some (.int 6), some (.int 2), some (.int 0), some (.int 5)]) rfl (by decide) (by decide) rfl rfl dX0_soundAt_65 ?_
        refine aw_goto (tgt := 10) (by decide) dX0_soundAt_68 ?_
        refine aw_iload (x := 2) rfl dX0_soundAt_10 ?_
        refine aw_iload_n (x := 3) rfl dX0_soundAt_12 ?_
        refine aw_icmp_ge (tgt := 71) (by decide) dX0_soundAt_13 (fun z => absurd z (by decide)) (fun _ => ?_)
        refine aw_iload_n (x := 11) rfl dX0_soundAt_16 ?_
        refine aw_iload (x := 2) rfl dX0_soundAt_17 ?_
        refine aw_rS (v := some (.int 0)) (o2 := o) ct_X0_isLong_11_2 (mm_fit_of cbX0_isLong (by decide) (by decide)) wq309 wq310 rfl rfl (Nat.le_of_ble_eq_true rfl) (by decide) (by decide) rfl dX0_soundAt_19 ?_
        refine aw_istore (L2 := [some (.int 11), some (.int t), some (.int 3), some (.int 6), some (.int 2), some (.int 0), some (.int 5)]) (by decide) rfl rfl dX0_soundAt_22 ?_
        refine aw_iload_n (x := 6) rfl dX0_soundAt_24 ?_
        refine aw_iload (x := 0) rfl dX0_soundAt_25 ?_
        refine aw_if_eq (tgt := 34) (by decide) dX0_soundAt_27 (fun _ => ?_) (fun z => absurd z (by decide))
        refine aw_iconst (v := 1) (by decide) dX0_soundAt_34 ?_
        refine aw_iaddz (z := 7) (by decide) dX0_soundAt_35 ?_
        refine aw_istore (L2 := [some (.int 11), some (.int t), some (.int 3), some (.int 6), some (.int 2), some (.int 0), some (.int 7)]) (by decide) rfl rfl dX0_soundAt_36 ?_
        refine aw_iload_n (x := t) rfl dX0_soundAt_38 ?_
        refine aw_iload_n (x := 6) rfl dX0_soundAt_39 ?_
        refine aw_icmp_lt (tgt := 60) (by decide) dX0_soundAt_40 (fun b6 => ?_) (fun b6 => ?_)
        · skip
          refine aw_iload (x := 7) rfl dX0_soundAt_60 ?_
          refine aw_iconst (v := 1) (by decide) dX0_soundAt_62 ?_
          refine aw_iaddz (z := 8) (by decide) dX0_soundAt_63 ?_
          refine aw_istore_n (L2 := [some (.int 11), some (.int t), some (.int 3), some (.int 8), some (.int 2), some (.int 0), some (.int 7)]) (by decide) rfl rfl dX0_soundAt_64 ?_
          refine aw_iinc (x := 2) (v := 3) (L2 := [some (.int 11), some (.int t), some (.int 3), some (.int 8), some (.int 3), some (.int 0), some (.int 7)]) rfl (by decide) (by decide) rfl rfl dX0_soundAt_65 ?_
          refine aw_goto (tgt := 10) (by decide) dX0_soundAt_68 ?_
          refine aw_iload (x := 3) rfl dX0_soundAt_10 ?_
          refine aw_iload_n (x := 3) rfl dX0_soundAt_12 ?_
          refine aw_icmp_ge (tgt := 71) (by decide) dX0_soundAt_13 (fun _ => ?_) (fun z => absurd z (by decide))
          refine aw_iconst (v := 0) (by decide) dX0_soundAt_71 ?_
          exact aw_iret rfl (by decide) (by decide) dX0_soundAt_72 ⟨by first | rfl | (simp [tc_s11, wd_w_row, row_self, row_row, b1, b2, b5, b6]; done) | (simp_all [tc_s11, wd_w_row, row_self, row_row, b1, b2, b5, b6]; done), by first | rfl | (simp [tc_s11, wd_w_row, row_self, row_row, b1, b2, b5, b6]; done) | (simp_all [tc_s11, wd_w_row, row_self, row_row, b1, b2, b5, b6]; done)⟩
        · skip
          refine aw_iload_n (x := t) rfl dX0_soundAt_43 ?_
          refine aw_iload (x := 7) rfl dX0_soundAt_44 ?_
          refine aw_icmp_ge (tgt := 60) (by decide) dX0_soundAt_46 (fun b7 => ?_) (fun b7 => ?_)
          · skip
            refine aw_iload (x := 7) rfl dX0_soundAt_60 ?_
            refine aw_iconst (v := 1) (by decide) dX0_soundAt_62 ?_
            refine aw_iaddz (z := 8) (by decide) dX0_soundAt_63 ?_
            refine aw_istore_n (L2 := [some (.int 11), some (.int t), some (.int 3), some (.int 8), some (.int 2), some (.int 0), some (.int 7)]) (by decide) rfl rfl dX0_soundAt_64 ?_
            refine aw_iinc (x := 2) (v := 3) (L2 := [some (.int 11), some (.int t), some (.int 3), some (.int 8), some (.int 3), some (.int 0), some (.int 7)]) rfl (by decide) (by decide) rfl rfl dX0_soundAt_65 ?_
            refine aw_goto (tgt := 10) (by decide) dX0_soundAt_68 ?_
            refine aw_iload (x := 3) rfl dX0_soundAt_10 ?_
            refine aw_iload_n (x := 3) rfl dX0_soundAt_12 ?_
            refine aw_icmp_ge (tgt := 71) (by decide) dX0_soundAt_13 (fun _ => ?_) (fun z => absurd z (by decide))
            refine aw_iconst (v := 0) (by decide) dX0_soundAt_71 ?_
            exact aw_iret rfl (by decide) (by decide) dX0_soundAt_72 ⟨by first | rfl | (simp [tc_s11, wd_w_row, row_self, row_row, b1, b2, b5, b6, b7]; done) | (simp_all [tc_s11, wd_w_row, row_self, row_row, b1, b2, b5, b6, b7]; done), by first | rfl | (simp [tc_s11, wd_w_row, row_self, row_row, b1, b2, b5, b6, b7]; done) | (simp_all [tc_s11, wd_w_row, row_self, row_row, b1, b2, b5, b6, b7]; done)⟩
          · skip
            refine aw_iload (x := 0) rfl dX0_soundAt_49 ?_
            refine aw_if_eq (tgt := 58) (by decide) dX0_soundAt_51 (fun _ => ?_) (fun z => absurd z (by decide))
            refine aw_iconst (v := 1) (by decide) dX0_soundAt_58 ?_
            exact aw_iret rfl (by decide) (by decide) dX0_soundAt_59 ⟨by first | rfl | (simp [tc_s11, wd_w_row, row_self, row_row, b1, b2, b5, b6, b7]; done) | (simp_all [tc_s11, wd_w_row, row_self, row_row, b1, b2, b5, b6, b7]; done), by first | rfl | (simp [tc_s11, wd_w_row, row_self, row_row, b1, b2, b5, b6, b7]; done) | (simp_all [tc_s11, wd_w_row, row_self, row_row, b1, b2, b5, b6, b7]; done)⟩
      · skip
        refine aw_iload (x := 0) rfl dX0_soundAt_49 ?_
        refine aw_if_eq (tgt := 58) (by decide) dX0_soundAt_51 (fun _ => ?_) (fun z => absurd z (by decide))
        refine aw_iconst (v := 1) (by decide) dX0_soundAt_58 ?_
        exact aw_iret rfl (by decide) (by decide) dX0_soundAt_59 ⟨by first | rfl | (simp [tc_s11, wd_w_row, row_self, row_row, b1, b2, b5]; done) | (simp_all [tc_s11, wd_w_row, row_self, row_row, b1, b2, b5]; done), by first | rfl | (simp [tc_s11, wd_w_row, row_self, row_row, b1, b2, b5]; done) | (simp_all [tc_s11, wd_w_row, row_self, row_row, b1, b2, b5]; done)⟩
  · skip
    refine aw_iload_n (x := t) rfl dX0_soundAt_43 ?_
    refine aw_iload (x := 3) rfl dX0_soundAt_44 ?_
    refine aw_icmp_ge (tgt := 60) (by decide) dX0_soundAt_46 (fun b8 => ?_) (fun b8 => ?_)
    · skip
      refine aw_iload (x := 3) rfl dX0_soundAt_60 ?_
      refine aw_iconst (v := 1) (by decide) dX0_soundAt_62 ?_
      refine aw_iaddz (z := 4) (by decide) dX0_soundAt_63 ?_
      refine aw_istore_n (L2 := [some (.int 11), some (.int t), some (.int 3), some (.int 4), some (.int 0), some (.int 1), some (.int 3)]) (by decide) rfl rfl dX0_soundAt_64 ?_
      refine aw_iinc (x := 0) (v := 1) (L2 := [some (.int 11), some (.int t), some (.int 3), some (.int 4), some (.int 1), some (.int 1), some (.int 3)]) rfl (by decide) (by decide) rfl rfl dX0_soundAt_65 ?_
      refine aw_goto (tgt := 10) (by decide) dX0_soundAt_68 ?_
      refine aw_iload (x := 1) rfl dX0_soundAt_10 ?_
      refine aw_iload_n (x := 3) rfl dX0_soundAt_12 ?_
      refine aw_icmp_ge (tgt := 71) (by decide) dX0_soundAt_13 (fun z => absurd z (by decide)) (fun _ => ?_)
      refine aw_iload_n (x := 11) rfl dX0_soundAt_16 ?_
      refine aw_iload (x := 1) rfl dX0_soundAt_17 ?_
      refine aw_rS (v := some (.int 0)) (o2 := o) ct_X0_isLong_11_1 (mm_fit_of cbX0_isLong (by decide) (by decide)) wq309 wq310 rfl rfl (Nat.le_of_ble_eq_true rfl) (by decide) (by decide) rfl dX0_soundAt_19 ?_
      refine aw_istore (L2 := [some (.int 11), some (.int t), some (.int 3), some (.int 4), some (.int 1), some (.int 0), some (.int 3)]) (by decide) rfl rfl dX0_soundAt_22 ?_
      refine aw_iload_n (x := 4) rfl dX0_soundAt_24 ?_
      refine aw_iload (x := 0) rfl dX0_soundAt_25 ?_
      refine aw_if_eq (tgt := 34) (by decide) dX0_soundAt_27 (fun _ => ?_) (fun z => absurd z (by decide))
      refine aw_iconst (v := 1) (by decide) dX0_soundAt_34 ?_
      refine aw_iaddz (z := 5) (by decide) dX0_soundAt_35 ?_
      refine aw_istore (L2 := [some (.int 11), some (.int t), some (.int 3), some (.int 4), some (.int 1), some (.int 0), some (.int 5)]) (by decide) rfl rfl dX0_soundAt_36 ?_
      refine aw_iload_n (x := t) rfl dX0_soundAt_38 ?_
      refine aw_iload_n (x := 4) rfl dX0_soundAt_39 ?_
      refine aw_icmp_lt (tgt := 60) (by decide) dX0_soundAt_40 (fun b9 => ?_) (fun b9 => ?_)
      · skip
        refine aw_iload (x := 5) rfl dX0_soundAt_60 ?_
        refine aw_iconst (v := 1) (by decide) dX0_soundAt_62 ?_
        refine aw_iaddz (z := 6) (by decide) dX0_soundAt_63 ?_
        refine aw_istore_n (L2 := [some (.int 11), some (.int t), some (.int 3), some (.int 6), some (.int 1), some (.int 0), some (.int 5)]) (by decide) rfl rfl dX0_soundAt_64 ?_
        refine aw_iinc (x := 1) (v := 2) (L2 := [some (.int 11), some (.int t), some (.int 3), some (.int 6), some (.int 2), some (.int 0), some (.int 5)]) rfl (by decide) (by decide) rfl rfl dX0_soundAt_65 ?_
        refine aw_goto (tgt := 10) (by decide) dX0_soundAt_68 ?_
        refine aw_iload (x := 2) rfl dX0_soundAt_10 ?_
        refine aw_iload_n (x := 3) rfl dX0_soundAt_12 ?_
        refine aw_icmp_ge (tgt := 71) (by decide) dX0_soundAt_13 (fun z => absurd z (by decide)) (fun _ => ?_)
        refine aw_iload_n (x := 11) rfl dX0_soundAt_16 ?_
        refine aw_iload (x := 2) rfl dX0_soundAt_17 ?_
        refine aw_rS (v := some (.int 0)) (o2 := o) ct_X0_isLong_11_2 (mm_fit_of cbX0_isLong (by decide) (by decide)) wq309 wq310 rfl rfl (Nat.le_of_ble_eq_true rfl) (by decide) (by decide) rfl dX0_soundAt_19 ?_
        refine aw_istore (L2 := [some (.int 11), some (.int t), some (.int 3), some (.int 6), some (.int 2), some (.int 0), some (.int 5)]) (by decide) rfl rfl dX0_soundAt_22 ?_
        refine aw_iload_n (x := 6) rfl dX0_soundAt_24 ?_
        refine aw_iload (x := 0) rfl dX0_soundAt_25 ?_
        refine aw_if_eq (tgt := 34) (by decide) dX0_soundAt_27 (fun _ => ?_) (fun z => absurd z (by decide))
        refine aw_iconst (v := 1) (by decide) dX0_soundAt_34 ?_
        refine aw_iaddz (z := 7) (by decide) dX0_soundAt_35 ?_
        refine aw_istore (L2 := [some (.int 11), some (.int t), some (.int 3), some (.int 6), some (.int 2), some (.int 0), some (.int 7)]) (by decide) rfl rfl dX0_soundAt_36 ?_
        refine aw_iload_n (x := t) rfl dX0_soundAt_38 ?_
        refine aw_iload_n (x := 6) rfl dX0_soundAt_39 ?_
        refine aw_icmp_lt (tgt := 60) (by decide) dX0_soundAt_40 (fun b10 => ?_) (fun b10 => ?_)
        · skip
          refine aw_iload (x := 7) rfl dX0_soundAt_60 ?_
          refine aw_iconst (v := 1) (by decide) dX0_soundAt_62 ?_
          refine aw_iaddz (z := 8) (by decide) dX0_soundAt_63 ?_
          refine aw_istore_n (L2 := [some (.int 11), some (.int t), some (.int 3), some (.int 8), some (.int 2), some (.int 0), some (.int 7)]) (by decide) rfl rfl dX0_soundAt_64 ?_
          refine aw_iinc (x := 2) (v := 3) (L2 := [some (.int 11), some (.int t), some (.int 3), some (.int 8), some (.int 3), some (.int 0), some (.int 7)]) rfl (by decide) (by decide) rfl rfl dX0_soundAt_65 ?_
          refine aw_goto (tgt := 10) (by decide) dX0_soundAt_68 ?_
          refine aw_iload (x := 3) rfl dX0_soundAt_10 ?_
          refine aw_iload_n (x := 3) rfl dX0_soundAt_12 ?_
          refine aw_icmp_ge (tgt := 71) (by decide) dX0_soundAt_13 (fun _ => ?_) (fun z => absurd z (by decide))
          refine aw_iconst (v := 0) (by decide) dX0_soundAt_71 ?_
          exact aw_iret rfl (by decide) (by decide) dX0_soundAt_72 ⟨by first | rfl | (simp [tc_s11, wd_w_row, row_self, row_row, b1, b8, b9, b10]; done) | (simp_all [tc_s11, wd_w_row, row_self, row_row, b1, b8, b9, b10]; done), by first | rfl | (simp [tc_s11, wd_w_row, row_self, row_row, b1, b8, b9, b10]; done) | (simp_all [tc_s11, wd_w_row, row_self, row_row, b1, b8, b9, b10]; done)⟩
        · skip
          refine aw_iload_n (x := t) rfl dX0_soundAt_43 ?_
          refine aw_iload (x := 7) rfl dX0_soundAt_44 ?_
          refine aw_icmp_ge (tgt := 60) (by decide) dX0_soundAt_46 (fun b11 => ?_) (fun b11 => ?_)
          · skip
            refine aw_iload (x := 7) rfl dX0_soundAt_60 ?_
            refine aw_iconst (v := 1) (by decide) dX0_soundAt_62 ?_
            refine aw_iaddz (z := 8) (by decide) dX0_soundAt_63 ?_
            refine aw_istore_n (L2 := [some (.int 11), some (.int t), some (.int 3), some (.int 8), some (.int 2), some (.int 0), some (.int 7)]) (by decide) rfl rfl dX0_soundAt_64 ?_
            refine aw_iinc (x := 2) (v := 3) (L2 := [some (.int 11), some (.int t), some (.int 3), some (.int 8), some (.int 3), some (.int 0), some (.int 7)]) rfl (by decide) (by decide) rfl rfl dX0_soundAt_65 ?_
            refine aw_goto (tgt := 10) (by decide) dX0_soundAt_68 ?_
            refine aw_iload (x := 3) rfl dX0_soundAt_10 ?_
            refine aw_iload_n (x := 3) rfl dX0_soundAt_12 ?_
            refine aw_icmp_ge (tgt := 71) (by decide) dX0_soundAt_13 (fun _ => ?_) (fun z => absurd z (by decide))
            refine aw_iconst (v := 0) (by decide) dX0_soundAt_71 ?_
            exact aw_iret rfl (by decide) (by decide) dX0_soundAt_72 ⟨by first | rfl | (simp [tc_s11, wd_w_row, row_self, row_row, b1, b8, b9, b10, b11]; done) | (simp_all [tc_s11, wd_w_row, row_self, row_row, b1, b8, b9, b10, b11]; done), by first | rfl | (simp [tc_s11, wd_w_row, row_self, row_row, b1, b8, b9, b10, b11]; done) | (simp_all [tc_s11, wd_w_row, row_self, row_row, b1, b8, b9, b10, b11]; done)⟩
          · skip
            refine aw_iload (x := 0) rfl dX0_soundAt_49 ?_
            refine aw_if_eq (tgt := 58) (by decide) dX0_soundAt_51 (fun _ => ?_) (fun z => absurd z (by decide))
            refine aw_iconst (v := 1) (by decide) dX0_soundAt_58 ?_
            exact aw_iret rfl (by decide) (by decide) dX0_soundAt_59 ⟨by first | rfl | (simp [tc_s11, wd_w_row, row_self, row_row, b1, b8, b9, b10, b11]; done) | (simp_all [tc_s11, wd_w_row, row_self, row_row, b1, b8, b9, b10, b11]; done), by first | rfl | (simp [tc_s11, wd_w_row, row_self, row_row, b1, b8, b9, b10, b11]; done) | (simp_all [tc_s11, wd_w_row, row_self, row_row, b1, b8, b9, b10, b11]; done)⟩
      · skip
        refine aw_iload_n (x := t) rfl dX0_soundAt_43 ?_
        refine aw_iload (x := 5) rfl dX0_soundAt_44 ?_
        refine aw_icmp_ge (tgt := 60) (by decide) dX0_soundAt_46 (fun b12 => ?_) (fun b12 => ?_)
        · skip
          refine aw_iload (x := 5) rfl dX0_soundAt_60 ?_
          refine aw_iconst (v := 1) (by decide) dX0_soundAt_62 ?_
          refine aw_iaddz (z := 6) (by decide) dX0_soundAt_63 ?_
          refine aw_istore_n (L2 := [some (.int 11), some (.int t), some (.int 3), some (.int 6), some (.int 1), some (.int 0), some (.int 5)]) (by decide) rfl rfl dX0_soundAt_64 ?_
          refine aw_iinc (x := 1) (v := 2) (L2 := [some (.int 11), some (.int t), some (.int 3), some (.int 6), some (.int 2), some (.int 0), some (.int 5)]) rfl (by decide) (by decide) rfl rfl dX0_soundAt_65 ?_
          refine aw_goto (tgt := 10) (by decide) dX0_soundAt_68 ?_
          refine aw_iload (x := 2) rfl dX0_soundAt_10 ?_
          refine aw_iload_n (x := 3) rfl dX0_soundAt_12 ?_
          refine aw_icmp_ge (tgt := 71) (by decide) dX0_soundAt_13 (fun z => absurd z (by decide)) (fun _ => ?_)
          refine aw_iload_n (x := 11) rfl dX0_soundAt_16 ?_
          refine aw_iload (x := 2) rfl dX0_soundAt_17 ?_
          refine aw_rS (v := some (.int 0)) (o2 := o) ct_X0_isLong_11_2 (mm_fit_of cbX0_isLong (by decide) (by decide)) wq309 wq310 rfl rfl (Nat.le_of_ble_eq_true rfl) (by decide) (by decide) rfl dX0_soundAt_19 ?_
          refine aw_istore (L2 := [some (.int 11), some (.int t), some (.int 3), some (.int 6), some (.int 2), some (.int 0), some (.int 5)]) (by decide) rfl rfl dX0_soundAt_22 ?_
          refine aw_iload_n (x := 6) rfl dX0_soundAt_24 ?_
          refine aw_iload (x := 0) rfl dX0_soundAt_25 ?_
          refine aw_if_eq (tgt := 34) (by decide) dX0_soundAt_27 (fun _ => ?_) (fun z => absurd z (by decide))
          refine aw_iconst (v := 1) (by decide) dX0_soundAt_34 ?_
          refine aw_iaddz (z := 7) (by decide) dX0_soundAt_35 ?_
          refine aw_istore (L2 := [some (.int 11), some (.int t), some (.int 3), some (.int 6), some (.int 2), some (.int 0), some (.int 7)]) (by decide) rfl rfl dX0_soundAt_36 ?_
          refine aw_iload_n (x := t) rfl dX0_soundAt_38 ?_
          refine aw_iload_n (x := 6) rfl dX0_soundAt_39 ?_
          refine aw_icmp_lt (tgt := 60) (by decide) dX0_soundAt_40 (fun b13 => ?_) (fun b13 => ?_)
          · skip
            refine aw_iload (x := 7) rfl dX0_soundAt_60 ?_
            refine aw_iconst (v := 1) (by decide) dX0_soundAt_62 ?_
            refine aw_iaddz (z := 8) (by decide) dX0_soundAt_63 ?_
            refine aw_istore_n (L2 := [some (.int 11), some (.int t), some (.int 3), some (.int 8), some (.int 2), some (.int 0), some (.int 7)]) (by decide) rfl rfl dX0_soundAt_64 ?_
            refine aw_iinc (x := 2) (v := 3) (L2 := [some (.int 11), some (.int t), some (.int 3), some (.int 8), some (.int 3), some (.int 0), some (.int 7)]) rfl (by decide) (by decide) rfl rfl dX0_soundAt_65 ?_
            refine aw_goto (tgt := 10) (by decide) dX0_soundAt_68 ?_
            refine aw_iload (x := 3) rfl dX0_soundAt_10 ?_
            refine aw_iload_n (x := 3) rfl dX0_soundAt_12 ?_
            refine aw_icmp_ge (tgt := 71) (by decide) dX0_soundAt_13 (fun _ => ?_) (fun z => absurd z (by decide))
            refine aw_iconst (v := 0) (by decide) dX0_soundAt_71 ?_
            exact aw_iret rfl (by decide) (by decide) dX0_soundAt_72 ⟨by first | rfl | (simp [tc_s11, wd_w_row, row_self, row_row, b1, b8, b9, b12, b13]; done) | (simp_all [tc_s11, wd_w_row, row_self, row_row, b1, b8, b9, b12, b13]; done), by first | rfl | (simp [tc_s11, wd_w_row, row_self, row_row, b1, b8, b9, b12, b13]; done) | (simp_all [tc_s11, wd_w_row, row_self, row_row, b1, b8, b9, b12, b13]; done)⟩
          · skip
            refine aw_iload_n (x := t) rfl dX0_soundAt_43 ?_
            refine aw_iload (x := 7) rfl dX0_soundAt_44 ?_
            refine aw_icmp_ge (tgt := 60) (by decide) dX0_soundAt_46 (fun b14 => ?_) (fun b14 => ?_)
            · skip
              refine aw_iload (x := 7) rfl dX0_soundAt_60 ?_
              refine aw_iconst (v := 1) (by decide) dX0_soundAt_62 ?_
              refine aw_iaddz (z := 8) (by decide) dX0_soundAt_63 ?_
              refine aw_istore_n (L2 := [some (.int 11), some (.int t), some (.int 3), some (.int 8), some (.int 2), some (.int 0), some (.int 7)]) (by decide) rfl rfl dX0_soundAt_64 ?_
              refine aw_iinc (x := 2) (v := 3) (L2 := [some (.int 11), some (.int t), some (.int 3), some (.int 8), some (.int 3), some (.int 0), some (.int 7)]) rfl (by decide) (by decide) rfl rfl dX0_soundAt_65 ?_
              refine aw_goto (tgt := 10) (by decide) dX0_soundAt_68 ?_
              refine aw_iload (x := 3) rfl dX0_soundAt_10 ?_
              refine aw_iload_n (x := 3) rfl dX0_soundAt_12 ?_
              refine aw_icmp_ge (tgt := 71) (by decide) dX0_soundAt_13 (fun _ => ?_) (fun z => absurd z (by decide))
              refine aw_iconst (v := 0) (by decide) dX0_soundAt_71 ?_
              exact aw_iret rfl (by decide) (by decide) dX0_soundAt_72 ⟨by first | rfl | (simp [tc_s11, wd_w_row, row_self, row_row, b1, b8, b9, b12, b13, b14]; done) | (simp_all [tc_s11, wd_w_row, row_self, row_row, b1, b8, b9, b12, b13, b14]; done), by first | rfl | (simp [tc_s11, wd_w_row, row_self, row_row, b1, b8, b9, b12, b13, b14]; done) | (simp_all [tc_s11, wd_w_row, row_self, row_row, b1, b8, b9, b12, b13, b14]; done)⟩
            · skip
              refine aw_iload (x := 0) rfl dX0_soundAt_49 ?_
              refine aw_if_eq (tgt := 58) (by decide) dX0_soundAt_51 (fun _ => ?_) (fun z => absurd z (by decide))
              refine aw_iconst (v := 1) (by decide) dX0_soundAt_58 ?_
              exact aw_iret rfl (by decide) (by decide) dX0_soundAt_59 ⟨by first | rfl | (simp [tc_s11, wd_w_row, row_self, row_row, b1, b8, b9, b12, b13, b14]; done) | (simp_all [tc_s11, wd_w_row, row_self, row_row, b1, b8, b9, b12, b13, b14]; done), by first | rfl | (simp [tc_s11, wd_w_row, row_self, row_row, b1, b8, b9, b12, b13, b14]; done) | (simp_all [tc_s11, wd_w_row, row_self, row_row, b1, b8, b9, b12, b13, b14]; done)⟩
        · skip
          refine aw_iload (x := 0) rfl dX0_soundAt_49 ?_
          refine aw_if_eq (tgt := 58) (by decide) dX0_soundAt_51 (fun _ => ?_) (fun z => absurd z (by decide))
          refine aw_iconst (v := 1) (by decide) dX0_soundAt_58 ?_
          exact aw_iret rfl (by decide) (by decide) dX0_soundAt_59 ⟨by first | rfl | (simp [tc_s11, wd_w_row, row_self, row_row, b1, b8, b9, b12]; done) | (simp_all [tc_s11, wd_w_row, row_self, row_row, b1, b8, b9, b12]; done), by first | rfl | (simp [tc_s11, wd_w_row, row_self, row_row, b1, b8, b9, b12]; done) | (simp_all [tc_s11, wd_w_row, row_self, row_row, b1, b8, b9, b12]; done)⟩
    · skip
      refine aw_iload (x := 1) rfl dX0_soundAt_49 ?_
      refine aw_if_eq (tgt := 58) (by decide) dX0_soundAt_51 (fun z => absurd z (by decide)) (fun _ => ?_)
      refine aw_iconst (v := 2) (by decide) dX0_soundAt_54 ?_
      refine aw_goto (tgt := 59) (by decide) dX0_soundAt_55 ?_
      exact aw_iret rfl (by decide) (by decide) dX0_soundAt_59 ⟨by first | rfl | (simp [tc_s11, wd_w_row, row_self, row_row, b1, b8]; done) | (simp_all [tc_s11, wd_w_row, row_self, row_row, b1, b8]; done), by first | rfl | (simp [tc_s11, wd_w_row, row_self, row_row, b1, b8]; done) | (simp_all [tc_s11, wd_w_row, row_self, row_row, b1, b8]; done)⟩
theorem ct_X0_ringCount_12 {ad : Nat → Nat → Nat → Nat} {o : wd_S}  : CT ad MX0_ringCount [.int 12] o (RT (some (.int 3)) o) := by
  refine CT.of (L := [some (.int 12), none]) rfl rfl (by decide) (Nat.le_of_ble_eq_true rfl) rfl ?_
  refine aw_iconst (v := 0) (by decide) dX0_ringCount_0 ?_
  refine aw_istore_n (L2 := [some (.int 12), some (.int 0)]) (by decide) rfl rfl dX0_ringCount_1 ?_
  refine aw_iload_n (x := 0) rfl dX0_ringCount_2 ?_
  refine aw_iconst (v := 3) (by decide) dX0_ringCount_3 ?_
  refine aw_icmp_ge (tgt := 23) (by decide) dX0_ringCount_4 (fun z => absurd z (by decide)) (fun _ => ?_)
  refine aw_iload_n (x := 12) rfl dX0_ringCount_7 ?_
  refine aw_iconst (v := 1) (by decide) dX0_ringCount_8 ?_
  refine aw_iaddz (z := 13) (by decide) dX0_ringCount_9 ?_
  refine aw_iload_n (x := 0) rfl dX0_ringCount_10 ?_
  refine aw_iconst (v := 1) (by decide) dX0_ringCount_11 ?_
  refine aw_iaddz (z := 1) (by decide) dX0_ringCount_12 ?_
  refine aw_ishrz (z := 6) (by decide) dX0_ringCount_13 ?_
  refine aw_if_eq (tgt := 23) (by decide) dX0_ringCount_14 (fun z => absurd z (by decide)) (fun _ => ?_)
  refine aw_iinc (x := 0) (v := 1) (L2 := [some (.int 12), some (.int 1)]) rfl (by decide) (by decide) rfl rfl dX0_ringCount_17 ?_
  refine aw_goto (tgt := 2) (by decide) dX0_ringCount_20 ?_
  refine aw_iload_n (x := 1) rfl dX0_ringCount_2 ?_
  refine aw_iconst (v := 3) (by decide) dX0_ringCount_3 ?_
  refine aw_icmp_ge (tgt := 23) (by decide) dX0_ringCount_4 (fun z => absurd z (by decide)) (fun _ => ?_)
  refine aw_iload_n (x := 12) rfl dX0_ringCount_7 ?_
  refine aw_iconst (v := 1) (by decide) dX0_ringCount_8 ?_
  refine aw_iaddz (z := 13) (by decide) dX0_ringCount_9 ?_
  refine aw_iload_n (x := 1) rfl dX0_ringCount_10 ?_
  refine aw_iconst (v := 1) (by decide) dX0_ringCount_11 ?_
  refine aw_iaddz (z := 2) (by decide) dX0_ringCount_12 ?_
  refine aw_ishrz (z := 3) (by decide) dX0_ringCount_13 ?_
  refine aw_if_eq (tgt := 23) (by decide) dX0_ringCount_14 (fun z => absurd z (by decide)) (fun _ => ?_)
  refine aw_iinc (x := 1) (v := 2) (L2 := [some (.int 12), some (.int 2)]) rfl (by decide) (by decide) rfl rfl dX0_ringCount_17 ?_
  refine aw_goto (tgt := 2) (by decide) dX0_ringCount_20 ?_
  refine aw_iload_n (x := 2) rfl dX0_ringCount_2 ?_
  refine aw_iconst (v := 3) (by decide) dX0_ringCount_3 ?_
  refine aw_icmp_ge (tgt := 23) (by decide) dX0_ringCount_4 (fun z => absurd z (by decide)) (fun _ => ?_)
  refine aw_iload_n (x := 12) rfl dX0_ringCount_7 ?_
  refine aw_iconst (v := 1) (by decide) dX0_ringCount_8 ?_
  refine aw_iaddz (z := 13) (by decide) dX0_ringCount_9 ?_
  refine aw_iload_n (x := 2) rfl dX0_ringCount_10 ?_
  refine aw_iconst (v := 1) (by decide) dX0_ringCount_11 ?_
  refine aw_iaddz (z := 3) (by decide) dX0_ringCount_12 ?_
  refine aw_ishrz (z := 1) (by decide) dX0_ringCount_13 ?_
  refine aw_if_eq (tgt := 23) (by decide) dX0_ringCount_14 (fun z => absurd z (by decide)) (fun _ => ?_)
  refine aw_iinc (x := 2) (v := 3) (L2 := [some (.int 12), some (.int 3)]) rfl (by decide) (by decide) rfl rfl dX0_ringCount_17 ?_
  refine aw_goto (tgt := 2) (by decide) dX0_ringCount_20 ?_
  refine aw_iload_n (x := 3) rfl dX0_ringCount_2 ?_
  refine aw_iconst (v := 3) (by decide) dX0_ringCount_3 ?_
  refine aw_icmp_ge (tgt := 23) (by decide) dX0_ringCount_4 (fun _ => ?_) (fun z => absurd z (by decide))
  refine aw_iload_n (x := 3) rfl dX0_ringCount_23 ?_
  exact aw_iret rfl (by decide) (by decide) dX0_ringCount_24 ⟨by first | rfl | (simp [wd_w_row, row_self, row_row]; done) | (simp_all [wd_w_row, row_self, row_row]; done), by first | rfl | (simp [wd_w_row, row_self, row_row]; done) | (simp_all [wd_w_row, row_self, row_row]; done)⟩
theorem ct_X0_isLong_12_0 {ad : Nat → Nat → Nat → Nat} {o : wd_S}  : CT ad MX0_isLong [.int 12, .int 0] o (RT (some (.int 1)) o) := by
  refine CT.of (L := [some (.int 12), some (.int 0), none]) rfl rfl (by decide) (Nat.le_of_ble_eq_true rfl) rfl ?_
  refine aw_iload_n (x := 12) rfl dX0_isLong_0 ?_
  refine aw_rS (v := some (.int 3)) (o2 := o) ct_X0_ringCount_12 (mm_fit_of cbX0_ringCount (by decide) (by decide)) wq303 wq304 rfl rfl (Nat.le_of_ble_eq_true rfl) (by decide) (by decide) rfl dX0_isLong_1 ?_
  refine aw_iconst (v := 1) (by decide) dX0_isLong_4 ?_
  refine aw_isubz (z := 2) (by decide) dX0_isLong_5 ?_
  refine aw_iload_n (x := 0) rfl dX0_isLong_6 ?_
  refine aw_isubz (z := 2) (by decide) dX0_isLong_7 ?_
  refine aw_istore_n (L2 := [some (.int 12), some (.int 0), some (.int 2)]) (by decide) rfl rfl dX0_isLong_8 ?_
  refine aw_iload_n (x := 12) rfl dX0_isLong_9 ?_
  refine aw_iconst (v := 1) (by decide) dX0_isLong_10 ?_
  refine aw_iaddz (z := 13) (by decide) dX0_isLong_11 ?_
  refine aw_iload_n (x := 2) rfl dX0_isLong_12 ?_
  refine aw_ishrz (z := 3) (by decide) dX0_isLong_13 ?_
  refine aw_iconst (v := 1) (by decide) dX0_isLong_14 ?_
  refine aw_iandz (z := 1) (by decide) dX0_isLong_15 ?_
  refine aw_iconst (v := 1) (by decide) dX0_isLong_16 ?_
  refine aw_icmp_ne (tgt := 24) (by decide) dX0_isLong_17 (fun z => absurd z (by decide)) (fun _ => ?_)
  refine aw_iconst (v := 1) (by decide) dX0_isLong_20 ?_
  refine aw_goto (tgt := 25) (by decide) dX0_isLong_21 ?_
  exact aw_zret rfl (by decide) (by decide) (by decide) dX0_isLong_25 ⟨by first | rfl | (simp [wd_w_row, row_self, row_row]; done) | (simp_all [wd_w_row, row_self, row_row]; done), by first | rfl | (simp [wd_w_row, row_self, row_row]; done) | (simp_all [wd_w_row, row_self, row_row]; done)⟩
theorem ct_X0_isLong_12_1 {ad : Nat → Nat → Nat → Nat} {o : wd_S}  : CT ad MX0_isLong [.int 12, .int 1] o (RT (some (.int 0)) o) := by
  refine CT.of (L := [some (.int 12), some (.int 1), none]) rfl rfl (by decide) (Nat.le_of_ble_eq_true rfl) rfl ?_
  refine aw_iload_n (x := 12) rfl dX0_isLong_0 ?_
  refine aw_rS (v := some (.int 3)) (o2 := o) ct_X0_ringCount_12 (mm_fit_of cbX0_ringCount (by decide) (by decide)) wq303 wq304 rfl rfl (Nat.le_of_ble_eq_true rfl) (by decide) (by decide) rfl dX0_isLong_1 ?_
  refine aw_iconst (v := 1) (by decide) dX0_isLong_4 ?_
  refine aw_isubz (z := 2) (by decide) dX0_isLong_5 ?_
  refine aw_iload_n (x := 1) rfl dX0_isLong_6 ?_
  refine aw_isubz (z := 1) (by decide) dX0_isLong_7 ?_
  refine aw_istore_n (L2 := [some (.int 12), some (.int 1), some (.int 1)]) (by decide) rfl rfl dX0_isLong_8 ?_
  refine aw_iload_n (x := 12) rfl dX0_isLong_9 ?_
  refine aw_iconst (v := 1) (by decide) dX0_isLong_10 ?_
  refine aw_iaddz (z := 13) (by decide) dX0_isLong_11 ?_
  refine aw_iload_n (x := 1) rfl dX0_isLong_12 ?_
  refine aw_ishrz (z := 6) (by decide) dX0_isLong_13 ?_
  refine aw_iconst (v := 1) (by decide) dX0_isLong_14 ?_
  refine aw_iandz (z := 0) (by decide) dX0_isLong_15 ?_
  refine aw_iconst (v := 1) (by decide) dX0_isLong_16 ?_
  refine aw_icmp_ne (tgt := 24) (by decide) dX0_isLong_17 (fun _ => ?_) (fun z => absurd z (by decide))
  refine aw_iconst (v := 0) (by decide) dX0_isLong_24 ?_
  exact aw_zret rfl (by decide) (by decide) (by decide) dX0_isLong_25 ⟨by first | rfl | (simp [wd_w_row, row_self, row_row]; done) | (simp_all [wd_w_row, row_self, row_row]; done), by first | rfl | (simp [wd_w_row, row_self, row_row]; done) | (simp_all [wd_w_row, row_self, row_row]; done)⟩
theorem ct_X0_isLong_12_2 {ad : Nat → Nat → Nat → Nat} {o : wd_S}  : CT ad MX0_isLong [.int 12, .int 2] o (RT (some (.int 1)) o) := by
  refine CT.of (L := [some (.int 12), some (.int 2), none]) rfl rfl (by decide) (Nat.le_of_ble_eq_true rfl) rfl ?_
  refine aw_iload_n (x := 12) rfl dX0_isLong_0 ?_
  refine aw_rS (v := some (.int 3)) (o2 := o) ct_X0_ringCount_12 (mm_fit_of cbX0_ringCount (by decide) (by decide)) wq303 wq304 rfl rfl (Nat.le_of_ble_eq_true rfl) (by decide) (by decide) rfl dX0_isLong_1 ?_
  refine aw_iconst (v := 1) (by decide) dX0_isLong_4 ?_
  refine aw_isubz (z := 2) (by decide) dX0_isLong_5 ?_
  refine aw_iload_n (x := 2) rfl dX0_isLong_6 ?_
  refine aw_isubz (z := 0) (by decide) dX0_isLong_7 ?_
  refine aw_istore_n (L2 := [some (.int 12), some (.int 2), some (.int 0)]) (by decide) rfl rfl dX0_isLong_8 ?_
  refine aw_iload_n (x := 12) rfl dX0_isLong_9 ?_
  refine aw_iconst (v := 1) (by decide) dX0_isLong_10 ?_
  refine aw_iaddz (z := 13) (by decide) dX0_isLong_11 ?_
  refine aw_iload_n (x := 0) rfl dX0_isLong_12 ?_
  refine aw_ishrz (z := 13) (by decide) dX0_isLong_13 ?_
  refine aw_iconst (v := 1) (by decide) dX0_isLong_14 ?_
  refine aw_iandz (z := 1) (by decide) dX0_isLong_15 ?_
  refine aw_iconst (v := 1) (by decide) dX0_isLong_16 ?_
  refine aw_icmp_ne (tgt := 24) (by decide) dX0_isLong_17 (fun z => absurd z (by decide)) (fun _ => ?_)
  refine aw_iconst (v := 1) (by decide) dX0_isLong_20 ?_
  refine aw_goto (tgt := 25) (by decide) dX0_isLong_21 ?_
  exact aw_zret rfl (by decide) (by decide) (by decide) dX0_isLong_25 ⟨by first | rfl | (simp [wd_w_row, row_self, row_row]; done) | (simp_all [wd_w_row, row_self, row_row]; done), by first | rfl | (simp [wd_w_row, row_self, row_row]; done) | (simp_all [wd_w_row, row_self, row_row]; done)⟩
theorem ct_X0_lengthOf_12 {ad : Nat → Nat → Nat → Nat} {o : wd_S}  : CT ad MX0_lengthOf [.int 12] o (RT (some (.int 13)) o) := by
  refine CT.of (L := [some (.int 12), none, none, none]) rfl rfl (by decide) (Nat.le_of_ble_eq_true rfl) rfl ?_
  refine aw_iload_n (x := 12) rfl dX0_lengthOf_0 ?_
  refine aw_rS (v := some (.int 3)) (o2 := o) ct_X0_ringCount_12 (mm_fit_of cbX0_ringCount (by decide) (by decide)) wq303 wq304 rfl rfl (Nat.le_of_ble_eq_true rfl) (by decide) (by decide) rfl dX0_lengthOf_1 ?_
  refine aw_istore_n (L2 := [some (.int 12), some (.int 3), none, none]) (by decide) rfl rfl dX0_lengthOf_4 ?_
  refine aw_iload_n (x := 3) rfl dX0_lengthOf_5 ?_
  refine aw_iconst (v := 1) (by decide) dX0_lengthOf_6 ?_
  refine aw_isubz (z := 2) (by decide) dX0_lengthOf_7 ?_
  refine aw_iconst (v := 1) (by decide) dX0_lengthOf_8 ?_
  refine aw_imulz (z := 2) (by decide) dX0_lengthOf_9 ?_
  refine aw_iconst (v := 4) (by decide) dX0_lengthOf_10 ?_
  refine aw_iaddz (z := 6) (by decide) dX0_lengthOf_11 ?_
  refine aw_istore_n (L2 := [some (.int 12), some (.int 3), some (.int 6), none]) (by decide) rfl rfl dX0_lengthOf_12 ?_
  refine aw_iconst (v := 0) (by decide) dX0_lengthOf_13 ?_
  refine aw_istore_n (L2 := [some (.int 12), some (.int 3), some (.int 6), some (.int 0)]) (by decide) rfl rfl dX0_lengthOf_14 ?_
  refine aw_iload_n (x := 0) rfl dX0_lengthOf_15 ?_
  refine aw_iload_n (x := 3) rfl dX0_lengthOf_16 ?_
  refine aw_icmp_ge (tgt := 45) (by decide) dX0_lengthOf_17 (fun z => absurd z (by decide)) (fun _ => ?_)
  refine aw_iload_n (x := 6) rfl dX0_lengthOf_20 ?_
  refine aw_iload_n (x := 12) rfl dX0_lengthOf_21 ?_
  refine aw_iconst (v := 1) (by decide) dX0_lengthOf_22 ?_
  refine aw_iaddz (z := 13) (by decide) dX0_lengthOf_23 ?_
  refine aw_iload_n (x := 0) rfl dX0_lengthOf_24 ?_
  refine aw_ishrz (z := 13) (by decide) dX0_lengthOf_25 ?_
  refine aw_iconst (v := 1) (by decide) dX0_lengthOf_26 ?_
  refine aw_iandz (z := 1) (by decide) dX0_lengthOf_27 ?_
  refine aw_iconst (v := 1) (by decide) dX0_lengthOf_28 ?_
  refine aw_icmp_ne (tgt := 36) (by decide) dX0_lengthOf_29 (fun z => absurd z (by decide)) (fun _ => ?_)
  refine aw_iconst (v := 3) (by decide) dX0_lengthOf_32 ?_
  refine aw_goto (tgt := 37) (by decide) dX0_lengthOf_33 ?_
  refine aw_iaddz (z := 9) (by decide) dX0_lengthOf_37 ?_
  refine aw_istore_n (L2 := [some (.int 12), some (.int 3), some (.int 9), some (.int 0)]) (by decide) rfl rfl dX0_lengthOf_38 ?_
  refine aw_iinc (x := 0) (v := 1) (L2 := [some (.int 12), some (.int 3), some (.int 9), some (.int 1)]) rfl (by decide) (by decide) rfl rfl dX0_lengthOf_39 ?_
  refine aw_goto (tgt := 15) (by decide) dX0_lengthOf_42 ?_
  refine aw_iload_n (x := 1) rfl dX0_lengthOf_15 ?_
  refine aw_iload_n (x := 3) rfl dX0_lengthOf_16 ?_
  refine aw_icmp_ge (tgt := 45) (by decide) dX0_lengthOf_17 (fun z => absurd z (by decide)) (fun _ => ?_)
  refine aw_iload_n (x := 9) rfl dX0_lengthOf_20 ?_
  refine aw_iload_n (x := 12) rfl dX0_lengthOf_21 ?_
  refine aw_iconst (v := 1) (by decide) dX0_lengthOf_22 ?_
  refine aw_iaddz (z := 13) (by decide) dX0_lengthOf_23 ?_
  refine aw_iload_n (x := 1) rfl dX0_lengthOf_24 ?_
  refine aw_ishrz (z := 6) (by decide) dX0_lengthOf_25 ?_
  refine aw_iconst (v := 1) (by decide) dX0_lengthOf_26 ?_
  refine aw_iandz (z := 0) (by decide) dX0_lengthOf_27 ?_
  refine aw_iconst (v := 1) (by decide) dX0_lengthOf_28 ?_
  refine aw_icmp_ne (tgt := 36) (by decide) dX0_lengthOf_29 (fun _ => ?_) (fun z => absurd z (by decide))
  refine aw_iconst (v := 1) (by decide) dX0_lengthOf_36 ?_
  refine aw_iaddz (z := 10) (by decide) dX0_lengthOf_37 ?_
  refine aw_istore_n (L2 := [some (.int 12), some (.int 3), some (.int 10), some (.int 1)]) (by decide) rfl rfl dX0_lengthOf_38 ?_
  refine aw_iinc (x := 1) (v := 2) (L2 := [some (.int 12), some (.int 3), some (.int 10), some (.int 2)]) rfl (by decide) (by decide) rfl rfl dX0_lengthOf_39 ?_
  refine aw_goto (tgt := 15) (by decide) dX0_lengthOf_42 ?_
  refine aw_iload_n (x := 2) rfl dX0_lengthOf_15 ?_
  refine aw_iload_n (x := 3) rfl dX0_lengthOf_16 ?_
  refine aw_icmp_ge (tgt := 45) (by decide) dX0_lengthOf_17 (fun z => absurd z (by decide)) (fun _ => ?_)
  refine aw_iload_n (x := 10) rfl dX0_lengthOf_20 ?_
  refine aw_iload_n (x := 12) rfl dX0_lengthOf_21 ?_
  refine aw_iconst (v := 1) (by decide) dX0_lengthOf_22 ?_
  refine aw_iaddz (z := 13) (by decide) dX0_lengthOf_23 ?_
  refine aw_iload_n (x := 2) rfl dX0_lengthOf_24 ?_
  refine aw_ishrz (z := 3) (by decide) dX0_lengthOf_25 ?_
  refine aw_iconst (v := 1) (by decide) dX0_lengthOf_26 ?_
  refine aw_iandz (z := 1) (by decide) dX0_lengthOf_27 ?_
  refine aw_iconst (v := 1) (by decide) dX0_lengthOf_28 ?_
  refine aw_icmp_ne (tgt := 36) (by decide) dX0_lengthOf_29 (fun z => absurd z (by decide)) (fun _ => ?_)
  refine aw_iconst (v := 3) (by decide) dX0_lengthOf_32 ?_
  refine aw_goto (tgt := 37) (by decide) dX0_lengthOf_33 ?_
  refine aw_iaddz (z := 13) (by decide) dX0_lengthOf_37 ?_
  refine aw_istore_n (L2 := [some (.int 12), some (.int 3), some (.int 13), some (.int 2)]) (by decide) rfl rfl dX0_lengthOf_38 ?_
  refine aw_iinc (x := 2) (v := 3) (L2 := [some (.int 12), some (.int 3), some (.int 13), some (.int 3)]) rfl (by decide) (by decide) rfl rfl dX0_lengthOf_39 ?_
  refine aw_goto (tgt := 15) (by decide) dX0_lengthOf_42 ?_
  refine aw_iload_n (x := 3) rfl dX0_lengthOf_15 ?_
  refine aw_iload_n (x := 3) rfl dX0_lengthOf_16 ?_
  refine aw_icmp_ge (tgt := 45) (by decide) dX0_lengthOf_17 (fun _ => ?_) (fun z => absurd z (by decide))
  refine aw_iload_n (x := 13) rfl dX0_lengthOf_45 ?_
  exact aw_iret rfl (by decide) (by decide) dX0_lengthOf_46 ⟨by first | rfl | (simp [wd_w_row, row_self, row_row]; done) | (simp_all [wd_w_row, row_self, row_row]; done), by first | rfl | (simp [wd_w_row, row_self, row_row]; done) | (simp_all [wd_w_row, row_self, row_row]; done)⟩
theorem ct_X0_soundAt_12 {ad : Nat → Nat → Nat → Nat} {o : wd_S} {t : Int32} : CT ad MX0_soundAt [.int 12, .int t] o (RT (some (.int (tc_s12 t))) o) := by
  refine CT.of (L := [some (.int 12), some (.int t), none, none, none, none, none]) rfl rfl (by decide) (Nat.le_of_ble_eq_true rfl) rfl ?_
  refine aw_iload_n (x := 12) rfl dX0_soundAt_0 ?_
  refine aw_rS (v := some (.int 3)) (o2 := o) ct_X0_ringCount_12 (mm_fit_of cbX0_ringCount (by decide) (by decide)) wq303 wq304 rfl rfl (Nat.le_of_ble_eq_true rfl) (by decide) (by decide) rfl dX0_soundAt_1 ?_
  refine aw_istore_n (L2 := [some (.int 12), some (.int t), some (.int 3), none, none, none, none]) (by decide) rfl rfl dX0_soundAt_4 ?_
  refine aw_iconst (v := 0) (by decide) dX0_soundAt_5 ?_
  refine aw_istore_n (L2 := [some (.int 12), some (.int t), some (.int 3), some (.int 0), none, none, none]) (by decide) rfl rfl dX0_soundAt_6 ?_
  refine aw_iconst (v := 0) (by decide) dX0_soundAt_7 ?_
  refine aw_istore (L2 := [some (.int 12), some (.int t), some (.int 3), some (.int 0), some (.int 0), none, none]) (by decide) rfl rfl dX0_soundAt_8 ?_
  refine aw_iload (x := 0) rfl dX0_soundAt_10 ?_
  refine aw_iload_n (x := 3) rfl dX0_soundAt_12 ?_
  refine aw_icmp_ge (tgt := 71) (by decide) dX0_soundAt_13 (fun z => absurd z (by decide)) (fun _ => ?_)
  refine aw_iload_n (x := 12) rfl dX0_soundAt_16 ?_
  refine aw_iload (x := 0) rfl dX0_soundAt_17 ?_
  refine aw_rS (v := some (.int 1)) (o2 := o) ct_X0_isLong_12_0 (mm_fit_of cbX0_isLong (by decide) (by decide)) wq309 wq310 rfl rfl (Nat.le_of_ble_eq_true rfl) (by decide) (by decide) rfl dX0_soundAt_19 ?_
  refine aw_istore (L2 := [some (.int 12), some (.int t), some (.int 3), some (.int 0), some (.int 0), some (.int 1), none]) (by decide) rfl rfl dX0_soundAt_22 ?_
  refine aw_iload_n (x := 0) rfl dX0_soundAt_24 ?_
  refine aw_iload (x := 1) rfl dX0_soundAt_25 ?_
  refine aw_if_eq (tgt := 34) (by decide) dX0_soundAt_27 (fun z => absurd z (by decide)) (fun _ => ?_)
  refine aw_iconst (v := 3) (by decide) dX0_soundAt_30 ?_
  refine aw_goto (tgt := 35) (by decide) dX0_soundAt_31 ?_
  refine aw_iaddz (z := 3) (by decide) dX0_soundAt_35 ?_
  refine aw_istore (L2 := [some (.int 12), some (.int t), some (.int 3), some (.int 0), some (.int 0), some (.int 1), some (.int 3)]) (by decide) rfl rfl dX0_soundAt_36 ?_
  refine aw_iload_n (x := t) rfl dX0_soundAt_38 ?_
  refine aw_iload_n (x := 0) rfl dX0_soundAt_39 ?_
  refine aw_icmp_lt (tgt := 60) (by decide) dX0_soundAt_40 (fun b1 => ?_) (fun b1 => ?_)
  · skip
    refine aw_iload (x := 3) rfl dX0_soundAt_60 ?_
    refine aw_iconst (v := 1) (by decide) dX0_soundAt_62 ?_
    refine aw_iaddz (z := 4) (by decide) dX0_soundAt_63 ?_
    refine aw_istore_n (L2 := [some (.int 12), some (.int t), some (.int 3), some (.int 4), some (.int 0), some (.int 1), some (.int 3)]) (by decide) rfl rfl dX0_soundAt_64 ?_
    refine aw_iinc (x := 0) (v := 1) (L2 := [some (.int 12), some (.int t), some (.int 3), some (.int 4), some (.int 1), some (.int 1), some (.int 3)]) rfl (by decide) (by decide) rfl rfl dX0_soundAt_65 ?_
    refine aw_goto (tgt := 10) (by decide) dX0_soundAt_68 ?_
    refine aw_iload (x := 1) rfl dX0_soundAt_10 ?_
    refine aw_iload_n (x := 3) rfl dX0_soundAt_12 ?_
    refine aw_icmp_ge (tgt := 71) (by decide) dX0_soundAt_13 (fun z => absurd z (by decide)) (fun _ => ?_)
    refine aw_iload_n (x := 12) rfl dX0_soundAt_16 ?_
    refine aw_iload (x := 1) rfl dX0_soundAt_17 ?_
    refine aw_rS (v := some (.int 0)) (o2 := o) ct_X0_isLong_12_1 (mm_fit_of cbX0_isLong (by decide) (by decide)) wq309 wq310 rfl rfl (Nat.le_of_ble_eq_true rfl) (by decide) (by decide) rfl dX0_soundAt_19 ?_
    refine aw_istore (L2 := [some (.int 12), some (.int t), some (.int 3), some (.int 4), some (.int 1), some (.int 0), some (.int 3)]) (by decide) rfl rfl dX0_soundAt_22 ?_
    refine aw_iload_n (x := 4) rfl dX0_soundAt_24 ?_
    refine aw_iload (x := 0) rfl dX0_soundAt_25 ?_
    refine aw_if_eq (tgt := 34) (by decide) dX0_soundAt_27 (fun _ => ?_) (fun z => absurd z (by decide))
    refine aw_iconst (v := 1) (by decide) dX0_soundAt_34 ?_
    refine aw_iaddz (z := 5) (by decide) dX0_soundAt_35 ?_
    refine aw_istore (L2 := [some (.int 12), some (.int t), some (.int 3), some (.int 4), some (.int 1), some (.int 0), some (.int 5)]) (by decide) rfl rfl dX0_soundAt_36 ?_
    refine aw_iload_n (x := t) rfl dX0_soundAt_38 ?_
    refine aw_iload_n (x := 4) rfl dX0_soundAt_39 ?_
    refine aw_icmp_lt (tgt := 60) (by decide) dX0_soundAt_40 (fun b2 => ?_) (fun b2 => ?_)
    · skip
      refine aw_iload (x := 5) rfl dX0_soundAt_60 ?_
      refine aw_iconst (v := 1) (by decide) dX0_soundAt_62 ?_
      refine aw_iaddz (z := 6) (by decide) dX0_soundAt_63 ?_
      refine aw_istore_n (L2 := [some (.int 12), some (.int t), some (.int 3), some (.int 6), some (.int 1), some (.int 0), some (.int 5)]) (by decide) rfl rfl dX0_soundAt_64 ?_
      refine aw_iinc (x := 1) (v := 2) (L2 := [some (.int 12), some (.int t), some (.int 3), some (.int 6), some (.int 2), some (.int 0), some (.int 5)]) rfl (by decide) (by decide) rfl rfl dX0_soundAt_65 ?_
      refine aw_goto (tgt := 10) (by decide) dX0_soundAt_68 ?_
      refine aw_iload (x := 2) rfl dX0_soundAt_10 ?_
      refine aw_iload_n (x := 3) rfl dX0_soundAt_12 ?_
      refine aw_icmp_ge (tgt := 71) (by decide) dX0_soundAt_13 (fun z => absurd z (by decide)) (fun _ => ?_)
      refine aw_iload_n (x := 12) rfl dX0_soundAt_16 ?_
      refine aw_iload (x := 2) rfl dX0_soundAt_17 ?_
      refine aw_rS (v := some (.int 1)) (o2 := o) ct_X0_isLong_12_2 (mm_fit_of cbX0_isLong (by decide) (by decide)) wq309 wq310 rfl rfl (Nat.le_of_ble_eq_true rfl) (by decide) (by decide) rfl dX0_soundAt_19 ?_
      refine aw_istore (L2 := [some (.int 12), some (.int t), some (.int 3), some (.int 6), some (.int 2), some (.int 1), some (.int 5)]) (by decide) rfl rfl dX0_soundAt_22 ?_
      refine aw_iload_n (x := 6) rfl dX0_soundAt_24 ?_
      refine aw_iload (x := 1) rfl dX0_soundAt_25 ?_
      refine aw_if_eq (tgt := 34) (by decide) dX0_soundAt_27 (fun z => absurd z (by decide)) (fun _ => ?_)
      refine aw_iconst (v := 3) (by decide) dX0_soundAt_30 ?_
      refine aw_goto (tgt := 35) (by decide) dX0_soundAt_31 ?_
      refine aw_iaddz (z := 9) (by decide) dX0_soundAt_35 ?_
      refine aw_istore (L2 := [some (.int 12), some (.int t), some (.int 3), some (.int 6), some (.int 2), some (.int 1), some (.int 9)]) (by decide) rfl rfl dX0_soundAt_36 ?_
      refine aw_iload_n (x := t) rfl dX0_soundAt_38 ?_
      refine aw_iload_n (x := 6) rfl dX0_soundAt_39 ?_
      refine aw_icmp_lt (tgt := 60) (by decide) dX0_soundAt_40 (fun b3 => ?_) (fun b3 => ?_)
      · skip
        refine aw_iload (x := 9) rfl dX0_soundAt_60 ?_
        refine aw_iconst (v := 1) (by decide) dX0_soundAt_62 ?_
        refine aw_iaddz (z := 10) (by decide) dX0_soundAt_63 ?_
        refine aw_istore_n (L2 := [some (.int 12), some (.int t), some (.int 3), some (.int 10), some (.int 2), some (.int 1), some (.int 9)]) (by decide) rfl rfl dX0_soundAt_64 ?_
        refine aw_iinc (x := 2) (v := 3) (L2 := [some (.int 12), some (.int t), some (.int 3), some (.int 10), some (.int 3), some (.int 1), some (.int 9)]) rfl (by decide) (by decide) rfl rfl dX0_soundAt_65 ?_
        refine aw_goto (tgt := 10) (by decide) dX0_soundAt_68 ?_
        refine aw_iload (x := 3) rfl dX0_soundAt_10 ?_
        refine aw_iload_n (x := 3) rfl dX0_soundAt_12 ?_
        refine aw_icmp_ge (tgt := 71) (by decide) dX0_soundAt_13 (fun _ => ?_) (fun z => absurd z (by decide))
        refine aw_iconst (v := 0) (by decide) dX0_soundAt_71 ?_
        exact aw_iret rfl (by decide) (by decide) dX0_soundAt_72 ⟨by first | rfl | (simp [tc_s12, wd_w_row, row_self, row_row, b1, b2, b3]; done) | (simp_all [tc_s12, wd_w_row, row_self, row_row, b1, b2, b3]; done), by first | rfl | (simp [tc_s12, wd_w_row, row_self, row_row, b1, b2, b3]; done) | (simp_all [tc_s12, wd_w_row, row_self, row_row, b1, b2, b3]; done)⟩
      · skip
        refine aw_iload_n (x := t) rfl dX0_soundAt_43 ?_
        refine aw_iload (x := 9) rfl dX0_soundAt_44 ?_
        refine aw_icmp_ge (tgt := 60) (by decide) dX0_soundAt_46 (fun b4 => ?_) (fun b4 => ?_)
        · skip
          refine aw_iload (x := 9) rfl dX0_soundAt_60 ?_
          refine aw_iconst (v := 1) (by decide) dX0_soundAt_62 ?_
          refine aw_iaddz (z := 10) (by decide) dX0_soundAt_63 ?_
          refine aw_istore_n (L2 := [some (.int 12), some (.int t), some (.int 3), some (.int 10), some (.int 2), some (.int 1), some (.int 9)]) (by decide) rfl rfl dX0_soundAt_64 ?_
          refine aw_iinc (x := 2) (v := 3) (L2 := [some (.int 12), some (.int t), some (.int 3), some (.int 10), some (.int 3), some (.int 1), some (.int 9)]) rfl (by decide) (by decide) rfl rfl dX0_soundAt_65 ?_
          refine aw_goto (tgt := 10) (by decide) dX0_soundAt_68 ?_
          refine aw_iload (x := 3) rfl dX0_soundAt_10 ?_
          refine aw_iload_n (x := 3) rfl dX0_soundAt_12 ?_
          refine aw_icmp_ge (tgt := 71) (by decide) dX0_soundAt_13 (fun _ => ?_) (fun z => absurd z (by decide))
          refine aw_iconst (v := 0) (by decide) dX0_soundAt_71 ?_
          exact aw_iret rfl (by decide) (by decide) dX0_soundAt_72 ⟨by first | rfl | (simp [tc_s12, wd_w_row, row_self, row_row, b1, b2, b3, b4]; done) | (simp_all [tc_s12, wd_w_row, row_self, row_row, b1, b2, b3, b4]; done), by first | rfl | (simp [tc_s12, wd_w_row, row_self, row_row, b1, b2, b3, b4]; done) | (simp_all [tc_s12, wd_w_row, row_self, row_row, b1, b2, b3, b4]; done)⟩
        · skip
          refine aw_iload (x := 1) rfl dX0_soundAt_49 ?_
          refine aw_if_eq (tgt := 58) (by decide) dX0_soundAt_51 (fun z => absurd z (by decide)) (fun _ => ?_)
          refine aw_iconst (v := 2) (by decide) dX0_soundAt_54 ?_
          refine aw_goto (tgt := 59) (by decide) dX0_soundAt_55 ?_
          exact aw_iret rfl (by decide) (by decide) dX0_soundAt_59 ⟨by first | rfl | (simp [tc_s12, wd_w_row, row_self, row_row, b1, b2, b3, b4]; done) | (simp_all [tc_s12, wd_w_row, row_self, row_row, b1, b2, b3, b4]; done), by first | rfl | (simp [tc_s12, wd_w_row, row_self, row_row, b1, b2, b3, b4]; done) | (simp_all [tc_s12, wd_w_row, row_self, row_row, b1, b2, b3, b4]; done)⟩
    · skip
      refine aw_iload_n (x := t) rfl dX0_soundAt_43 ?_
      refine aw_iload (x := 5) rfl dX0_soundAt_44 ?_
      refine aw_icmp_ge (tgt := 60) (by decide) dX0_soundAt_46 (fun b5 => ?_) (fun b5 => ?_)
      · skip
        refine aw_iload (x := 5) rfl dX0_soundAt_60 ?_
        refine aw_iconst (v := 1) (by decide) dX0_soundAt_62 ?_
        refine aw_iaddz (z := 6) (by decide) dX0_soundAt_63 ?_
        refine aw_istore_n (L2 := [some (.int 12), some (.int t), some (.int 3), some (.int 6), some (.int 1), some (.int 0), some (.int 5)]) (by decide) rfl rfl dX0_soundAt_64 ?_
        refine aw_iinc (x := 1) (v := 2) (L2 := [some (.int 12), some (.int t), some (.int 3), some (.int 6), some (.int 2), some (.int 0), some (.int 5)]) rfl (by decide) (by decide) rfl rfl dX0_soundAt_65 ?_
        refine aw_goto (tgt := 10) (by decide) dX0_soundAt_68 ?_
        refine aw_iload (x := 2) rfl dX0_soundAt_10 ?_
        refine aw_iload_n (x := 3) rfl dX0_soundAt_12 ?_
        refine aw_icmp_ge (tgt := 71) (by decide) dX0_soundAt_13 (fun z => absurd z (by decide)) (fun _ => ?_)
        refine aw_iload_n (x := 12) rfl dX0_soundAt_16 ?_
        refine aw_iload (x := 2) rfl dX0_soundAt_17 ?_
        refine aw_rS (v := some (.int 1)) (o2 := o) ct_X0_isLong_12_2 (mm_fit_of cbX0_isLong (by decide) (by decide)) wq309 wq310 rfl rfl (Nat.le_of_ble_eq_true rfl) (by decide) (by decide) rfl dX0_soundAt_19 ?_
        refine aw_istore (L2 := [some (.int 12), some (.int t), some (.int 3), some (.int 6), some (.int 2), some (.int 1), some (.int 5)]) (by decide) rfl rfl dX0_soundAt_22 ?_
        refine aw_iload_n (x := 6) rfl dX0_soundAt_24 ?_
        refine aw_iload (x := 1) rfl dX0_soundAt_25 ?_
        refine aw_if_eq (tgt := 34) (by decide) dX0_soundAt_27 (fun z => absurd z (by decide)) (fun _ => ?_)
        refine aw_iconst (v := 3) (by decide) dX0_soundAt_30 ?_
        refine aw_goto (tgt := 35) (by decide) dX0_soundAt_31 ?_
        refine aw_iaddz (z := 9) (by decide) dX0_soundAt_35 ?_
        refine aw_istore (L2 := [some (.int 12), some (.int t), some (.int 3), some (.int 6), some (.int 2), some (.int 1), some (.int 9)]) (by decide) rfl rfl dX0_soundAt_36 ?_
        refine aw_iload_n (x := t) rfl dX0_soundAt_38 ?_
        refine aw_iload_n (x := 6) rfl dX0_soundAt_39 ?_
        refine aw_icmp_lt (tgt := 60) (by decide) dX0_soundAt_40 (fun b6 => ?_) (fun b6 => ?_)
        · skip
          refine aw_iload (x := 9) rfl dX0_soundAt_60 ?_
          refine aw_iconst (v := 1) (by decide) dX0_soundAt_62 ?_
          refine aw_iaddz (z := 10) (by decide) dX0_soundAt_63 ?_
          refine aw_istore_n (L2 := [some (.int 12), some (.int t), some (.int 3), some (.int 10), some (.int 2), some (.int 1), some (.int 9)]) (by decide) rfl rfl dX0_soundAt_64 ?_
          refine aw_iinc (x := 2) (v := 3) (L2 := [some (.int 12), some (.int t), some (.int 3), some (.int 10), some (.int 3), some (.int 1), some (.int 9)]) rfl (by decide) (by decide) rfl rfl dX0_soundAt_65 ?_
          refine aw_goto (tgt := 10) (by decide) dX0_soundAt_68 ?_
          refine aw_iload (x := 3) rfl dX0_soundAt_10 ?_
          refine aw_iload_n (x := 3) rfl dX0_soundAt_12 ?_
          refine aw_icmp_ge (tgt := 71) (by decide) dX0_soundAt_13 (fun _ => ?_) (fun z => absurd z (by decide))
          refine aw_iconst (v := 0) (by decide) dX0_soundAt_71 ?_
          exact aw_iret rfl (by decide) (by decide) dX0_soundAt_72 ⟨by first | rfl | (simp [tc_s12, wd_w_row, row_self, row_row, b1, b2, b5, b6]; done) | (simp_all [tc_s12, wd_w_row, row_self, row_row, b1, b2, b5, b6]; done), by first | rfl | (simp [tc_s12, wd_w_row, row_self, row_row, b1, b2, b5, b6]; done) | (simp_all [tc_s12, wd_w_row, row_self, row_row, b1, b2, b5, b6]; done)⟩
        · skip
          refine aw_iload_n (x := t) rfl dX0_soundAt_43 ?_
          refine aw_iload (x := 9) rfl dX0_soundAt_44 ?_
          refine aw_icmp_ge (tgt := 60) (by decide) dX0_soundAt_46 (fun b7 => ?_) (fun b7 => ?_)
          · skip
            refine aw_iload (x := 9) rfl dX0_soundAt_60 ?_
            refine aw_iconst (v := 1) (by decide) dX0_soundAt_62 ?_
            refine aw_iaddz (z := 10) (by decide) dX0_soundAt_63 ?_
            refine aw_istore_n (L2 := [some (.int 12), some (.int t), some (.int 3), some (.int 10), some (.int 2), some (.int 1), some (.int 9)]) (by decide) rfl rfl dX0_soundAt_64 ?_
            refine aw_iinc (x := 2) (v := 3) (L2 := [some (.int 12), some (.int t), some (.int 3), some (.int 10), some (.int 3), some (.int 1), some (.int 9)]) rfl (by decide) (by decide) rfl rfl dX0_soundAt_65 ?_
            refine aw_goto (tgt := 10) (by decide) dX0_soundAt_68 ?_
            refine aw_iload (x := 3) rfl dX0_soundAt_10 ?_
            refine aw_iload_n (x := 3) rfl dX0_soundAt_12 ?_
            refine aw_icmp_ge (tgt := 71) (by decide) dX0_soundAt_13 (fun _ => ?_) (fun z => absurd z (by decide))
            refine aw_iconst (v := 0) (by decide) dX0_soundAt_71 ?_
            exact aw_iret rfl (by decide) (by decide) dX0_soundAt_72 ⟨by first | rfl | (simp [tc_s12, wd_w_row, row_self, row_row, b1, b2, b5, b6, b7]; done) | (simp_all [tc_s12, wd_w_row, row_self, row_row, b1, b2, b5, b6, b7]; done), by first | rfl | (simp [tc_s12, wd_w_row, row_self, row_row, b1, b2, b5, b6, b7]; done) | (simp_all [tc_s12, wd_w_row, row_self, row_row, b1, b2, b5, b6, b7]; done)⟩
          · skip
            refine aw_iload (x := 1) rfl dX0_soundAt_49 ?_
            refine aw_if_eq (tgt := 58) (by decide) dX0_soundAt_51 (fun z => absurd z (by decide)) (fun _ => ?_)
            refine aw_iconst (v := 2) (by decide) dX0_soundAt_54 ?_
            refine aw_goto (tgt := 59) (by decide) dX0_soundAt_55 ?_
            exact aw_iret rfl (by decide) (by decide) dX0_soundAt_59 ⟨by first | rfl | (simp [tc_s12, wd_w_row, row_self, row_row, b1, b2, b5, b6, b7]; done) | (simp_all [tc_s12, wd_w_row, row_self, row_row, b1, b2, b5, b6, b7]; done), by first | rfl | (simp [tc_s12, wd_w_row, row_self, row_row, b1, b2, b5, b6, b7]; done) | (simp_all [tc_s12, wd_w_row, row_self, row_row, b1, b2, b5, b6, b7]; done)⟩
      · skip
        refine aw_iload (x := 0) rfl dX0_soundAt_49 ?_
        refine aw_if_eq (tgt := 58) (by decide) dX0_soundAt_51 (fun _ => ?_) (fun z => absurd z (by decide))
        refine aw_iconst (v := 1) (by decide) dX0_soundAt_58 ?_
        exact aw_iret rfl (by decide) (by decide) dX0_soundAt_59 ⟨by first | rfl | (simp [tc_s12, wd_w_row, row_self, row_row, b1, b2, b5]; done) | (simp_all [tc_s12, wd_w_row, row_self, row_row, b1, b2, b5]; done), by first | rfl | (simp [tc_s12, wd_w_row, row_self, row_row, b1, b2, b5]; done) | (simp_all [tc_s12, wd_w_row, row_self, row_row, b1, b2, b5]; done)⟩
  · skip
    refine aw_iload_n (x := t) rfl dX0_soundAt_43 ?_
    refine aw_iload (x := 3) rfl dX0_soundAt_44 ?_
    refine aw_icmp_ge (tgt := 60) (by decide) dX0_soundAt_46 (fun b8 => ?_) (fun b8 => ?_)
    · skip
      refine aw_iload (x := 3) rfl dX0_soundAt_60 ?_
      refine aw_iconst (v := 1) (by decide) dX0_soundAt_62 ?_
      refine aw_iaddz (z := 4) (by decide) dX0_soundAt_63 ?_
      refine aw_istore_n (L2 := [some (.int 12), some (.int t), some (.int 3), some (.int 4), some (.int 0), some (.int 1), some (.int 3)]) (by decide) rfl rfl dX0_soundAt_64 ?_
      refine aw_iinc (x := 0) (v := 1) (L2 := [some (.int 12), some (.int t), some (.int 3), some (.int 4), some (.int 1), some (.int 1), some (.int 3)]) rfl (by decide) (by decide) rfl rfl dX0_soundAt_65 ?_
      refine aw_goto (tgt := 10) (by decide) dX0_soundAt_68 ?_
      refine aw_iload (x := 1) rfl dX0_soundAt_10 ?_
      refine aw_iload_n (x := 3) rfl dX0_soundAt_12 ?_
      refine aw_icmp_ge (tgt := 71) (by decide) dX0_soundAt_13 (fun z => absurd z (by decide)) (fun _ => ?_)
      refine aw_iload_n (x := 12) rfl dX0_soundAt_16 ?_
      refine aw_iload (x := 1) rfl dX0_soundAt_17 ?_
      refine aw_rS (v := some (.int 0)) (o2 := o) ct_X0_isLong_12_1 (mm_fit_of cbX0_isLong (by decide) (by decide)) wq309 wq310 rfl rfl (Nat.le_of_ble_eq_true rfl) (by decide) (by decide) rfl dX0_soundAt_19 ?_
      refine aw_istore (L2 := [some (.int 12), some (.int t), some (.int 3), some (.int 4), some (.int 1), some (.int 0), some (.int 3)]) (by decide) rfl rfl dX0_soundAt_22 ?_
      refine aw_iload_n (x := 4) rfl dX0_soundAt_24 ?_
      refine aw_iload (x := 0) rfl dX0_soundAt_25 ?_
      refine aw_if_eq (tgt := 34) (by decide) dX0_soundAt_27 (fun _ => ?_) (fun z => absurd z (by decide))
      refine aw_iconst (v := 1) (by decide) dX0_soundAt_34 ?_
      refine aw_iaddz (z := 5) (by decide) dX0_soundAt_35 ?_
      refine aw_istore (L2 := [some (.int 12), some (.int t), some (.int 3), some (.int 4), some (.int 1), some (.int 0), some (.int 5)]) (by decide) rfl rfl dX0_soundAt_36 ?_
      refine aw_iload_n (x := t) rfl dX0_soundAt_38 ?_
      refine aw_iload_n (x := 4) rfl dX0_soundAt_39 ?_
      refine aw_icmp_lt (tgt := 60) (by decide) dX0_soundAt_40 (fun b9 => ?_) (fun b9 => ?_)
      · skip
        refine aw_iload (x := 5) rfl dX0_soundAt_60 ?_
        refine aw_iconst (v := 1) (by decide) dX0_soundAt_62 ?_
        refine aw_iaddz (z := 6) (by decide) dX0_soundAt_63 ?_
        refine aw_istore_n (L2 := [some (.int 12), some (.int t), some (.int 3), some (.int 6), some (.int 1), some (.int 0), some (.int 5)]) (by decide) rfl rfl dX0_soundAt_64 ?_
        refine aw_iinc (x := 1) (v := 2) (L2 := [some (.int 12), some (.int t), some (.int 3), some (.int 6), some (.int 2), some (.int 0), some (.int 5)]) rfl (by decide) (by decide) rfl rfl dX0_soundAt_65 ?_
        refine aw_goto (tgt := 10) (by decide) dX0_soundAt_68 ?_
        refine aw_iload (x := 2) rfl dX0_soundAt_10 ?_
        refine aw_iload_n (x := 3) rfl dX0_soundAt_12 ?_
        refine aw_icmp_ge (tgt := 71) (by decide) dX0_soundAt_13 (fun z => absurd z (by decide)) (fun _ => ?_)
        refine aw_iload_n (x := 12) rfl dX0_soundAt_16 ?_
        refine aw_iload (x := 2) rfl dX0_soundAt_17 ?_
        refine aw_rS (v := some (.int 1)) (o2 := o) ct_X0_isLong_12_2 (mm_fit_of cbX0_isLong (by decide) (by decide)) wq309 wq310 rfl rfl (Nat.le_of_ble_eq_true rfl) (by decide) (by decide) rfl dX0_soundAt_19 ?_
        refine aw_istore (L2 := [some (.int 12), some (.int t), some (.int 3), some (.int 6), some (.int 2), some (.int 1), some (.int 5)]) (by decide) rfl rfl dX0_soundAt_22 ?_
        refine aw_iload_n (x := 6) rfl dX0_soundAt_24 ?_
        refine aw_iload (x := 1) rfl dX0_soundAt_25 ?_
        refine aw_if_eq (tgt := 34) (by decide) dX0_soundAt_27 (fun z => absurd z (by decide)) (fun _ => ?_)
        refine aw_iconst (v := 3) (by decide) dX0_soundAt_30 ?_
        refine aw_goto (tgt := 35) (by decide) dX0_soundAt_31 ?_
        refine aw_iaddz (z := 9) (by decide) dX0_soundAt_35 ?_
        refine aw_istore (L2 := [some (.int 12), some (.int t), some (.int 3), some (.int 6), some (.int 2), some (.int 1), some (.int 9)]) (by decide) rfl rfl dX0_soundAt_36 ?_
        refine aw_iload_n (x := t) rfl dX0_soundAt_38 ?_
        refine aw_iload_n (x := 6) rfl dX0_soundAt_39 ?_
        refine aw_icmp_lt (tgt := 60) (by decide) dX0_soundAt_40 (fun b10 => ?_) (fun b10 => ?_)
        · skip
          refine aw_iload (x := 9) rfl dX0_soundAt_60 ?_
          refine aw_iconst (v := 1) (by decide) dX0_soundAt_62 ?_
          refine aw_iaddz (z := 10) (by decide) dX0_soundAt_63 ?_
          refine aw_istore_n (L2 := [some (.int 12), some (.int t), some (.int 3), some (.int 10), some (.int 2), some (.int 1), some (.int 9)]) (by decide) rfl rfl dX0_soundAt_64 ?_
          refine aw_iinc (x := 2) (v := 3) (L2 := [some (.int 12), some (.int t), some (.int 3), some (.int 10), some (.int 3), some (.int 1), some (.int 9)]) rfl (by decide) (by decide) rfl rfl dX0_soundAt_65 ?_
          refine aw_goto (tgt := 10) (by decide) dX0_soundAt_68 ?_
          refine aw_iload (x := 3) rfl dX0_soundAt_10 ?_
          refine aw_iload_n (x := 3) rfl dX0_soundAt_12 ?_
          refine aw_icmp_ge (tgt := 71) (by decide) dX0_soundAt_13 (fun _ => ?_) (fun z => absurd z (by decide))
          refine aw_iconst (v := 0) (by decide) dX0_soundAt_71 ?_
          exact aw_iret rfl (by decide) (by decide) dX0_soundAt_72 ⟨by first | rfl | (simp [tc_s12, wd_w_row, row_self, row_row, b1, b8, b9, b10]; done) | (simp_all [tc_s12, wd_w_row, row_self, row_row, b1, b8, b9, b10]; done), by first | rfl | (simp [tc_s12, wd_w_row, row_self, row_row, b1, b8, b9, b10]; done) | (simp_all [tc_s12, wd_w_row, row_self, row_row, b1, b8, b9, b10]; done)⟩
        · skip
          refine aw_iload_n (x := t) rfl dX0_soundAt_43 ?_
          refine aw_iload (x := 9) rfl dX0_soundAt_44 ?_
          refine aw_icmp_ge (tgt := 60) (by decide) dX0_soundAt_46 (fun b11 => ?_) (fun b11 => ?_)
          · skip
            refine aw_iload (x := 9) rfl dX0_soundAt_60 ?_
            refine aw_iconst (v := 1) (by decide) dX0_soundAt_62 ?_
            refine aw_iaddz (z := 10) (by decide) dX0_soundAt_63 ?_
            refine aw_istore_n (L2 := [some (.int 12), some (.int t), some (.int 3), some (.int 10), some (.int 2), some (.int 1), some (.int 9)]) (by decide) rfl rfl dX0_soundAt_64 ?_
            refine aw_iinc (x := 2) (v := 3) (L2 := [some (.int 12), some (.int t), some (.int 3), some (.int 10), some (.int 3), some (.int 1), some (.int 9)]) rfl (by decide) (by decide) rfl rfl dX0_soundAt_65 ?_
            refine aw_goto (tgt := 10) (by decide) dX0_soundAt_68 ?_
            refine aw_iload (x := 3) rfl dX0_soundAt_10 ?_
            refine aw_iload_n (x := 3) rfl dX0_soundAt_12 ?_
            refine aw_icmp_ge (tgt := 71) (by decide) dX0_soundAt_13 (fun _ => ?_) (fun z => absurd z (by decide))
            refine aw_iconst (v := 0) (by decide) dX0_soundAt_71 ?_
            exact aw_iret rfl (by decide) (by decide) dX0_soundAt_72 ⟨by first | rfl | (simp [tc_s12, wd_w_row, row_self, row_row, b1, b8, b9, b10, b11]; done) | (simp_all [tc_s12, wd_w_row, row_self, row_row, b1, b8, b9, b10, b11]; done), by first | rfl | (simp [tc_s12, wd_w_row, row_self, row_row, b1, b8, b9, b10, b11]; done) | (simp_all [tc_s12, wd_w_row, row_self, row_row, b1, b8, b9, b10, b11]; done)⟩
          · skip
            refine aw_iload (x := 1) rfl dX0_soundAt_49 ?_
            refine aw_if_eq (tgt := 58) (by decide) dX0_soundAt_51 (fun z => absurd z (by decide)) (fun _ => ?_)
            refine aw_iconst (v := 2) (by decide) dX0_soundAt_54 ?_
            refine aw_goto (tgt := 59) (by decide) dX0_soundAt_55 ?_
            exact aw_iret rfl (by decide) (by decide) dX0_soundAt_59 ⟨by first | rfl | (simp [tc_s12, wd_w_row, row_self, row_row, b1, b8, b9, b10, b11]; done) | (simp_all [tc_s12, wd_w_row, row_self, row_row, b1, b8, b9, b10, b11]; done), by first | rfl | (simp [tc_s12, wd_w_row, row_self, row_row, b1, b8, b9, b10, b11]; done) | (simp_all [tc_s12, wd_w_row, row_self, row_row, b1, b8, b9, b10, b11]; done)⟩
      · skip
        refine aw_iload_n (x := t) rfl dX0_soundAt_43 ?_
        refine aw_iload (x := 5) rfl dX0_soundAt_44 ?_
        refine aw_icmp_ge (tgt := 60) (by decide) dX0_soundAt_46 (fun b12 => ?_) (fun b12 => ?_)
        · skip
          refine aw_iload (x := 5) rfl dX0_soundAt_60 ?_
          refine aw_iconst (v := 1) (by decide) dX0_soundAt_62 ?_
          refine aw_iaddz (z := 6) (by decide) dX0_soundAt_63 ?_
          refine aw_istore_n (L2 := [some (.int 12), some (.int t), some (.int 3), some (.int 6), some (.int 1), some (.int 0), some (.int 5)]) (by decide) rfl rfl dX0_soundAt_64 ?_
          refine aw_iinc (x := 1) (v := 2) (L2 := [some (.int 12), some (.int t), some (.int 3), some (.int 6), some (.int 2), some (.int 0), some (.int 5)]) rfl (by decide) (by decide) rfl rfl dX0_soundAt_65 ?_
          refine aw_goto (tgt := 10) (by decide) dX0_soundAt_68 ?_
          refine aw_iload (x := 2) rfl dX0_soundAt_10 ?_
          refine aw_iload_n (x := 3) rfl dX0_soundAt_12 ?_
          refine aw_icmp_ge (tgt := 71) (by decide) dX0_soundAt_13 (fun z => absurd z (by decide)) (fun _ => ?_)
          refine aw_iload_n (x := 12) rfl dX0_soundAt_16 ?_
          refine aw_iload (x := 2) rfl dX0_soundAt_17 ?_
          refine aw_rS (v := some (.int 1)) (o2 := o) ct_X0_isLong_12_2 (mm_fit_of cbX0_isLong (by decide) (by decide)) wq309 wq310 rfl rfl (Nat.le_of_ble_eq_true rfl) (by decide) (by decide) rfl dX0_soundAt_19 ?_
          refine aw_istore (L2 := [some (.int 12), some (.int t), some (.int 3), some (.int 6), some (.int 2), some (.int 1), some (.int 5)]) (by decide) rfl rfl dX0_soundAt_22 ?_
          refine aw_iload_n (x := 6) rfl dX0_soundAt_24 ?_
          refine aw_iload (x := 1) rfl dX0_soundAt_25 ?_
          refine aw_if_eq (tgt := 34) (by decide) dX0_soundAt_27 (fun z => absurd z (by decide)) (fun _ => ?_)
          refine aw_iconst (v := 3) (by decide) dX0_soundAt_30 ?_
          refine aw_goto (tgt := 35) (by decide) dX0_soundAt_31 ?_
          refine aw_iaddz (z := 9) (by decide) dX0_soundAt_35 ?_
          refine aw_istore (L2 := [some (.int 12), some (.int t), some (.int 3), some (.int 6), some (.int 2), some (.int 1), some (.int 9)]) (by decide) rfl rfl dX0_soundAt_36 ?_
          refine aw_iload_n (x := t) rfl dX0_soundAt_38 ?_
          refine aw_iload_n (x := 6) rfl dX0_soundAt_39 ?_
          refine aw_icmp_lt (tgt := 60) (by decide) dX0_soundAt_40 (fun b13 => ?_) (fun b13 => ?_)
          · skip
            refine aw_iload (x := 9) rfl dX0_soundAt_60 ?_
            refine aw_iconst (v := 1) (by decide) dX0_soundAt_62 ?_
            refine aw_iaddz (z := 10) (by decide) dX0_soundAt_63 ?_
            refine aw_istore_n (L2 := [some (.int 12), some (.int t), some (.int 3), some (.int 10), some (.int 2), some (.int 1), some (.int 9)]) (by decide) rfl rfl dX0_soundAt_64 ?_
            refine aw_iinc (x := 2) (v := 3) (L2 := [some (.int 12), some (.int t), some (.int 3), some (.int 10), some (.int 3), some (.int 1), some (.int 9)]) rfl (by decide) (by decide) rfl rfl dX0_soundAt_65 ?_
            refine aw_goto (tgt := 10) (by decide) dX0_soundAt_68 ?_
            refine aw_iload (x := 3) rfl dX0_soundAt_10 ?_
            refine aw_iload_n (x := 3) rfl dX0_soundAt_12 ?_
            refine aw_icmp_ge (tgt := 71) (by decide) dX0_soundAt_13 (fun _ => ?_) (fun z => absurd z (by decide))
            refine aw_iconst (v := 0) (by decide) dX0_soundAt_71 ?_
            exact aw_iret rfl (by decide) (by decide) dX0_soundAt_72 ⟨by first | rfl | (simp [tc_s12, wd_w_row, row_self, row_row, b1, b8, b9, b12, b13]; done) | (simp_all [tc_s12, wd_w_row, row_self, row_row, b1, b8, b9, b12, b13]; done), by first | rfl | (simp [tc_s12, wd_w_row, row_self, row_row, b1, b8, b9, b12, b13]; done) | (simp_all [tc_s12, wd_w_row, row_self, row_row, b1, b8, b9, b12, b13]; done)⟩
          · skip
            refine aw_iload_n (x := t) rfl dX0_soundAt_43 ?_
            refine aw_iload (x := 9) rfl dX0_soundAt_44 ?_
            refine aw_icmp_ge (tgt := 60) (by decide) dX0_soundAt_46 (fun b14 => ?_) (fun b14 => ?_)
            · skip
              refine aw_iload (x := 9) rfl dX0_soundAt_60 ?_
              refine aw_iconst (v := 1) (by decide) dX0_soundAt_62 ?_
              refine aw_iaddz (z := 10) (by decide) dX0_soundAt_63 ?_
              refine aw_istore_n (L2 := [some (.int 12), some (.int t), some (.int 3), some (.int 10), some (.int 2), some (.int 1), some (.int 9)]) (by decide) rfl rfl dX0_soundAt_64 ?_
              refine aw_iinc (x := 2) (v := 3) (L2 := [some (.int 12), some (.int t), some (.int 3), some (.int 10), some (.int 3), some (.int 1), some (.int 9)]) rfl (by decide) (by decide) rfl rfl dX0_soundAt_65 ?_
              refine aw_goto (tgt := 10) (by decide) dX0_soundAt_68 ?_
              refine aw_iload (x := 3) rfl dX0_soundAt_10 ?_
              refine aw_iload_n (x := 3) rfl dX0_soundAt_12 ?_
              refine aw_icmp_ge (tgt := 71) (by decide) dX0_soundAt_13 (fun _ => ?_) (fun z => absurd z (by decide))
              refine aw_iconst (v := 0) (by decide) dX0_soundAt_71 ?_
              exact aw_iret rfl (by decide) (by decide) dX0_soundAt_72 ⟨by first | rfl | (simp [tc_s12, wd_w_row, row_self, row_row, b1, b8, b9, b12, b13, b14]; done) | (simp_all [tc_s12, wd_w_row, row_self, row_row, b1, b8, b9, b12, b13, b14]; done), by first | rfl | (simp [tc_s12, wd_w_row, row_self, row_row, b1, b8, b9, b12, b13, b14]; done) | (simp_all [tc_s12, wd_w_row, row_self, row_row, b1, b8, b9, b12, b13, b14]; done)⟩
            · skip
              refine aw_iload (x := 1) rfl dX0_soundAt_49 ?_
              refine aw_if_eq (tgt := 58) (by decide) dX0_soundAt_51 (fun z => absurd z (by decide)) (fun _ => ?_)
              refine aw_iconst (v := 2) (by decide) dX0_soundAt_54 ?_
              refine aw_goto (tgt := 59) (by decide) dX0_soundAt_55 ?_
              exact aw_iret rfl (by decide) (by decide) dX0_soundAt_59 ⟨by first | rfl | (simp [tc_s12, wd_w_row, row_self, row_row, b1, b8, b9, b12, b13, b14]; done) | (simp_all [tc_s12, wd_w_row, row_self, row_row, b1, b8, b9, b12, b13, b14]; done), by first | rfl | (simp [tc_s12, wd_w_row, row_self, row_row, b1, b8, b9, b12, b13, b14]; done) | (simp_all [tc_s12, wd_w_row, row_self, row_row, b1, b8, b9, b12, b13, b14]; done)⟩
        · skip
          refine aw_iload (x := 0) rfl dX0_soundAt_49 ?_
          refine aw_if_eq (tgt := 58) (by decide) dX0_soundAt_51 (fun _ => ?_) (fun z => absurd z (by decide))
          refine aw_iconst (v := 1) (by decide) dX0_soundAt_58 ?_
          exact aw_iret rfl (by decide) (by decide) dX0_soundAt_59 ⟨by first | rfl | (simp [tc_s12, wd_w_row, row_self, row_row, b1, b8, b9, b12]; done) | (simp_all [tc_s12, wd_w_row, row_self, row_row, b1, b8, b9, b12]; done), by first | rfl | (simp [tc_s12, wd_w_row, row_self, row_row, b1, b8, b9, b12]; done) | (simp_all [tc_s12, wd_w_row, row_self, row_row, b1, b8, b9, b12]; done)⟩
    · skip
      refine aw_iload (x := 1) rfl dX0_soundAt_49 ?_
      refine aw_if_eq (tgt := 58) (by decide) dX0_soundAt_51 (fun z => absurd z (by decide)) (fun _ => ?_)
      refine aw_iconst (v := 2) (by decide) dX0_soundAt_54 ?_
      refine aw_goto (tgt := 59) (by decide) dX0_soundAt_55 ?_
      exact aw_iret rfl (by decide) (by decide) dX0_soundAt_59 ⟨by first | rfl | (simp [tc_s12, wd_w_row, row_self, row_row, b1, b8]; done) | (simp_all [tc_s12, wd_w_row, row_self, row_row, b1, b8]; done), by first | rfl | (simp [tc_s12, wd_w_row, row_self, row_row, b1, b8]; done) | (simp_all [tc_s12, wd_w_row, row_self, row_row, b1, b8]; done)⟩
theorem ct_X0_ringCount_13 {ad : Nat → Nat → Nat → Nat} {o : wd_S}  : CT ad MX0_ringCount [.int 13] o (RT (some (.int 3)) o) := by
  refine CT.of (L := [some (.int 13), none]) rfl rfl (by decide) (Nat.le_of_ble_eq_true rfl) rfl ?_
  refine aw_iconst (v := 0) (by decide) dX0_ringCount_0 ?_
  refine aw_istore_n (L2 := [some (.int 13), some (.int 0)]) (by decide) rfl rfl dX0_ringCount_1 ?_
  refine aw_iload_n (x := 0) rfl dX0_ringCount_2 ?_
  refine aw_iconst (v := 3) (by decide) dX0_ringCount_3 ?_
  refine aw_icmp_ge (tgt := 23) (by decide) dX0_ringCount_4 (fun z => absurd z (by decide)) (fun _ => ?_)
  refine aw_iload_n (x := 13) rfl dX0_ringCount_7 ?_
  refine aw_iconst (v := 1) (by decide) dX0_ringCount_8 ?_
  refine aw_iaddz (z := 14) (by decide) dX0_ringCount_9 ?_
  refine aw_iload_n (x := 0) rfl dX0_ringCount_10 ?_
  refine aw_iconst (v := 1) (by decide) dX0_ringCount_11 ?_
  refine aw_iaddz (z := 1) (by decide) dX0_ringCount_12 ?_
  refine aw_ishrz (z := 7) (by decide) dX0_ringCount_13 ?_
  refine aw_if_eq (tgt := 23) (by decide) dX0_ringCount_14 (fun z => absurd z (by decide)) (fun _ => ?_)
  refine aw_iinc (x := 0) (v := 1) (L2 := [some (.int 13), some (.int 1)]) rfl (by decide) (by decide) rfl rfl dX0_ringCount_17 ?_
  refine aw_goto (tgt := 2) (by decide) dX0_ringCount_20 ?_
  refine aw_iload_n (x := 1) rfl dX0_ringCount_2 ?_
  refine aw_iconst (v := 3) (by decide) dX0_ringCount_3 ?_
  refine aw_icmp_ge (tgt := 23) (by decide) dX0_ringCount_4 (fun z => absurd z (by decide)) (fun _ => ?_)
  refine aw_iload_n (x := 13) rfl dX0_ringCount_7 ?_
  refine aw_iconst (v := 1) (by decide) dX0_ringCount_8 ?_
  refine aw_iaddz (z := 14) (by decide) dX0_ringCount_9 ?_
  refine aw_iload_n (x := 1) rfl dX0_ringCount_10 ?_
  refine aw_iconst (v := 1) (by decide) dX0_ringCount_11 ?_
  refine aw_iaddz (z := 2) (by decide) dX0_ringCount_12 ?_
  refine aw_ishrz (z := 3) (by decide) dX0_ringCount_13 ?_
  refine aw_if_eq (tgt := 23) (by decide) dX0_ringCount_14 (fun z => absurd z (by decide)) (fun _ => ?_)
  refine aw_iinc (x := 1) (v := 2) (L2 := [some (.int 13), some (.int 2)]) rfl (by decide) (by decide) rfl rfl dX0_ringCount_17 ?_
  refine aw_goto (tgt := 2) (by decide) dX0_ringCount_20 ?_
  refine aw_iload_n (x := 2) rfl dX0_ringCount_2 ?_
  refine aw_iconst (v := 3) (by decide) dX0_ringCount_3 ?_
  refine aw_icmp_ge (tgt := 23) (by decide) dX0_ringCount_4 (fun z => absurd z (by decide)) (fun _ => ?_)
  refine aw_iload_n (x := 13) rfl dX0_ringCount_7 ?_
  refine aw_iconst (v := 1) (by decide) dX0_ringCount_8 ?_
  refine aw_iaddz (z := 14) (by decide) dX0_ringCount_9 ?_
  refine aw_iload_n (x := 2) rfl dX0_ringCount_10 ?_
  refine aw_iconst (v := 1) (by decide) dX0_ringCount_11 ?_
  refine aw_iaddz (z := 3) (by decide) dX0_ringCount_12 ?_
  refine aw_ishrz (z := 1) (by decide) dX0_ringCount_13 ?_
  refine aw_if_eq (tgt := 23) (by decide) dX0_ringCount_14 (fun z => absurd z (by decide)) (fun _ => ?_)
  refine aw_iinc (x := 2) (v := 3) (L2 := [some (.int 13), some (.int 3)]) rfl (by decide) (by decide) rfl rfl dX0_ringCount_17 ?_
  refine aw_goto (tgt := 2) (by decide) dX0_ringCount_20 ?_
  refine aw_iload_n (x := 3) rfl dX0_ringCount_2 ?_
  refine aw_iconst (v := 3) (by decide) dX0_ringCount_3 ?_
  refine aw_icmp_ge (tgt := 23) (by decide) dX0_ringCount_4 (fun _ => ?_) (fun z => absurd z (by decide))
  refine aw_iload_n (x := 3) rfl dX0_ringCount_23 ?_
  exact aw_iret rfl (by decide) (by decide) dX0_ringCount_24 ⟨by first | rfl | (simp [wd_w_row, row_self, row_row]; done) | (simp_all [wd_w_row, row_self, row_row]; done), by first | rfl | (simp [wd_w_row, row_self, row_row]; done) | (simp_all [wd_w_row, row_self, row_row]; done)⟩
theorem ct_X0_isLong_13_0 {ad : Nat → Nat → Nat → Nat} {o : wd_S}  : CT ad MX0_isLong [.int 13, .int 0] o (RT (some (.int 1)) o) := by
  refine CT.of (L := [some (.int 13), some (.int 0), none]) rfl rfl (by decide) (Nat.le_of_ble_eq_true rfl) rfl ?_
  refine aw_iload_n (x := 13) rfl dX0_isLong_0 ?_
  refine aw_rS (v := some (.int 3)) (o2 := o) ct_X0_ringCount_13 (mm_fit_of cbX0_ringCount (by decide) (by decide)) wq303 wq304 rfl rfl (Nat.le_of_ble_eq_true rfl) (by decide) (by decide) rfl dX0_isLong_1 ?_
  refine aw_iconst (v := 1) (by decide) dX0_isLong_4 ?_
  refine aw_isubz (z := 2) (by decide) dX0_isLong_5 ?_
  refine aw_iload_n (x := 0) rfl dX0_isLong_6 ?_
  refine aw_isubz (z := 2) (by decide) dX0_isLong_7 ?_
  refine aw_istore_n (L2 := [some (.int 13), some (.int 0), some (.int 2)]) (by decide) rfl rfl dX0_isLong_8 ?_
  refine aw_iload_n (x := 13) rfl dX0_isLong_9 ?_
  refine aw_iconst (v := 1) (by decide) dX0_isLong_10 ?_
  refine aw_iaddz (z := 14) (by decide) dX0_isLong_11 ?_
  refine aw_iload_n (x := 2) rfl dX0_isLong_12 ?_
  refine aw_ishrz (z := 3) (by decide) dX0_isLong_13 ?_
  refine aw_iconst (v := 1) (by decide) dX0_isLong_14 ?_
  refine aw_iandz (z := 1) (by decide) dX0_isLong_15 ?_
  refine aw_iconst (v := 1) (by decide) dX0_isLong_16 ?_
  refine aw_icmp_ne (tgt := 24) (by decide) dX0_isLong_17 (fun z => absurd z (by decide)) (fun _ => ?_)
  refine aw_iconst (v := 1) (by decide) dX0_isLong_20 ?_
  refine aw_goto (tgt := 25) (by decide) dX0_isLong_21 ?_
  exact aw_zret rfl (by decide) (by decide) (by decide) dX0_isLong_25 ⟨by first | rfl | (simp [wd_w_row, row_self, row_row]; done) | (simp_all [wd_w_row, row_self, row_row]; done), by first | rfl | (simp [wd_w_row, row_self, row_row]; done) | (simp_all [wd_w_row, row_self, row_row]; done)⟩
theorem ct_X0_isLong_13_1 {ad : Nat → Nat → Nat → Nat} {o : wd_S}  : CT ad MX0_isLong [.int 13, .int 1] o (RT (some (.int 1)) o) := by
  refine CT.of (L := [some (.int 13), some (.int 1), none]) rfl rfl (by decide) (Nat.le_of_ble_eq_true rfl) rfl ?_
  refine aw_iload_n (x := 13) rfl dX0_isLong_0 ?_
  refine aw_rS (v := some (.int 3)) (o2 := o) ct_X0_ringCount_13 (mm_fit_of cbX0_ringCount (by decide) (by decide)) wq303 wq304 rfl rfl (Nat.le_of_ble_eq_true rfl) (by decide) (by decide) rfl dX0_isLong_1 ?_
  refine aw_iconst (v := 1) (by decide) dX0_isLong_4 ?_
  refine aw_isubz (z := 2) (by decide) dX0_isLong_5 ?_
  refine aw_iload_n (x := 1) rfl dX0_isLong_6 ?_
  refine aw_isubz (z := 1) (by decide) dX0_isLong_7 ?_
  refine aw_istore_n (L2 := [some (.int 13), some (.int 1), some (.int 1)]) (by decide) rfl rfl dX0_isLong_8 ?_
  refine aw_iload_n (x := 13) rfl dX0_isLong_9 ?_
  refine aw_iconst (v := 1) (by decide) dX0_isLong_10 ?_
  refine aw_iaddz (z := 14) (by decide) dX0_isLong_11 ?_
  refine aw_iload_n (x := 1) rfl dX0_isLong_12 ?_
  refine aw_ishrz (z := 7) (by decide) dX0_isLong_13 ?_
  refine aw_iconst (v := 1) (by decide) dX0_isLong_14 ?_
  refine aw_iandz (z := 1) (by decide) dX0_isLong_15 ?_
  refine aw_iconst (v := 1) (by decide) dX0_isLong_16 ?_
  refine aw_icmp_ne (tgt := 24) (by decide) dX0_isLong_17 (fun z => absurd z (by decide)) (fun _ => ?_)
  refine aw_iconst (v := 1) (by decide) dX0_isLong_20 ?_
  refine aw_goto (tgt := 25) (by decide) dX0_isLong_21 ?_
  exact aw_zret rfl (by decide) (by decide) (by decide) dX0_isLong_25 ⟨by first | rfl | (simp [wd_w_row, row_self, row_row]; done) | (simp_all [wd_w_row, row_self, row_row]; done), by first | rfl | (simp [wd_w_row, row_self, row_row]; done) | (simp_all [wd_w_row, row_self, row_row]; done)⟩
theorem ct_X0_isLong_13_2 {ad : Nat → Nat → Nat → Nat} {o : wd_S}  : CT ad MX0_isLong [.int 13, .int 2] o (RT (some (.int 0)) o) := by
  refine CT.of (L := [some (.int 13), some (.int 2), none]) rfl rfl (by decide) (Nat.le_of_ble_eq_true rfl) rfl ?_
  refine aw_iload_n (x := 13) rfl dX0_isLong_0 ?_
  refine aw_rS (v := some (.int 3)) (o2 := o) ct_X0_ringCount_13 (mm_fit_of cbX0_ringCount (by decide) (by decide)) wq303 wq304 rfl rfl (Nat.le_of_ble_eq_true rfl) (by decide) (by decide) rfl dX0_isLong_1 ?_
  refine aw_iconst (v := 1) (by decide) dX0_isLong_4 ?_
  refine aw_isubz (z := 2) (by decide) dX0_isLong_5 ?_
  refine aw_iload_n (x := 2) rfl dX0_isLong_6 ?_
  refine aw_isubz (z := 0) (by decide) dX0_isLong_7 ?_
  refine aw_istore_n (L2 := [some (.int 13), some (.int 2), some (.int 0)]) (by decide) rfl rfl dX0_isLong_8 ?_
  refine aw_iload_n (x := 13) rfl dX0_isLong_9 ?_
  refine aw_iconst (v := 1) (by decide) dX0_isLong_10 ?_
  refine aw_iaddz (z := 14) (by decide) dX0_isLong_11 ?_
  refine aw_iload_n (x := 0) rfl dX0_isLong_12 ?_
  refine aw_ishrz (z := 14) (by decide) dX0_isLong_13 ?_
  refine aw_iconst (v := 1) (by decide) dX0_isLong_14 ?_
  refine aw_iandz (z := 0) (by decide) dX0_isLong_15 ?_
  refine aw_iconst (v := 1) (by decide) dX0_isLong_16 ?_
  refine aw_icmp_ne (tgt := 24) (by decide) dX0_isLong_17 (fun _ => ?_) (fun z => absurd z (by decide))
  refine aw_iconst (v := 0) (by decide) dX0_isLong_24 ?_
  exact aw_zret rfl (by decide) (by decide) (by decide) dX0_isLong_25 ⟨by first | rfl | (simp [wd_w_row, row_self, row_row]; done) | (simp_all [wd_w_row, row_self, row_row]; done), by first | rfl | (simp [wd_w_row, row_self, row_row]; done) | (simp_all [wd_w_row, row_self, row_row]; done)⟩
theorem ct_X0_lengthOf_13 {ad : Nat → Nat → Nat → Nat} {o : wd_S}  : CT ad MX0_lengthOf [.int 13] o (RT (some (.int 13)) o) := by
  refine CT.of (L := [some (.int 13), none, none, none]) rfl rfl (by decide) (Nat.le_of_ble_eq_true rfl) rfl ?_
  refine aw_iload_n (x := 13) rfl dX0_lengthOf_0 ?_
  refine aw_rS (v := some (.int 3)) (o2 := o) ct_X0_ringCount_13 (mm_fit_of cbX0_ringCount (by decide) (by decide)) wq303 wq304 rfl rfl (Nat.le_of_ble_eq_true rfl) (by decide) (by decide) rfl dX0_lengthOf_1 ?_
  refine aw_istore_n (L2 := [some (.int 13), some (.int 3), none, none]) (by decide) rfl rfl dX0_lengthOf_4 ?_
  refine aw_iload_n (x := 3) rfl dX0_lengthOf_5 ?_
  refine aw_iconst (v := 1) (by decide) dX0_lengthOf_6 ?_
  refine aw_isubz (z := 2) (by decide) dX0_lengthOf_7 ?_
  refine aw_iconst (v := 1) (by decide) dX0_lengthOf_8 ?_
  refine aw_imulz (z := 2) (by decide) dX0_lengthOf_9 ?_
  refine aw_iconst (v := 4) (by decide) dX0_lengthOf_10 ?_
  refine aw_iaddz (z := 6) (by decide) dX0_lengthOf_11 ?_
  refine aw_istore_n (L2 := [some (.int 13), some (.int 3), some (.int 6), none]) (by decide) rfl rfl dX0_lengthOf_12 ?_
  refine aw_iconst (v := 0) (by decide) dX0_lengthOf_13 ?_
  refine aw_istore_n (L2 := [some (.int 13), some (.int 3), some (.int 6), some (.int 0)]) (by decide) rfl rfl dX0_lengthOf_14 ?_
  refine aw_iload_n (x := 0) rfl dX0_lengthOf_15 ?_
  refine aw_iload_n (x := 3) rfl dX0_lengthOf_16 ?_
  refine aw_icmp_ge (tgt := 45) (by decide) dX0_lengthOf_17 (fun z => absurd z (by decide)) (fun _ => ?_)
  refine aw_iload_n (x := 6) rfl dX0_lengthOf_20 ?_
  refine aw_iload_n (x := 13) rfl dX0_lengthOf_21 ?_
  refine aw_iconst (v := 1) (by decide) dX0_lengthOf_22 ?_
  refine aw_iaddz (z := 14) (by decide) dX0_lengthOf_23 ?_
  refine aw_iload_n (x := 0) rfl dX0_lengthOf_24 ?_
  refine aw_ishrz (z := 14) (by decide) dX0_lengthOf_25 ?_
  refine aw_iconst (v := 1) (by decide) dX0_lengthOf_26 ?_
  refine aw_iandz (z := 0) (by decide) dX0_lengthOf_27 ?_
  refine aw_iconst (v := 1) (by decide) dX0_lengthOf_28 ?_
  refine aw_icmp_ne (tgt := 36) (by decide) dX0_lengthOf_29 (fun _ => ?_) (fun z => absurd z (by decide))
  refine aw_iconst (v := 1) (by decide) dX0_lengthOf_36 ?_
  refine aw_iaddz (z := 7) (by decide) dX0_lengthOf_37 ?_
  refine aw_istore_n (L2 := [some (.int 13), some (.int 3), some (.int 7), some (.int 0)]) (by decide) rfl rfl dX0_lengthOf_38 ?_
  refine aw_iinc (x := 0) (v := 1) (L2 := [some (.int 13), some (.int 3), some (.int 7), some (.int 1)]) rfl (by decide) (by decide) rfl rfl dX0_lengthOf_39 ?_
  refine aw_goto (tgt := 15) (by decide) dX0_lengthOf_42 ?_
  refine aw_iload_n (x := 1) rfl dX0_lengthOf_15 ?_
  refine aw_iload_n (x := 3) rfl dX0_lengthOf_16 ?_
  refine aw_icmp_ge (tgt := 45) (by decide) dX0_lengthOf_17 (fun z => absurd z (by decide)) (fun _ => ?_)
  refine aw_iload_n (x := 7) rfl dX0_lengthOf_20 ?_
  refine aw_iload_n (x := 13) rfl dX0_lengthOf_21 ?_
  refine aw_iconst (v := 1) (by decide) dX0_lengthOf_22 ?_
  refine aw_iaddz (z := 14) (by decide) dX0_lengthOf_23 ?_
  refine aw_iload_n (x := 1) rfl dX0_lengthOf_24 ?_
  refine aw_ishrz (z := 7) (by decide) dX0_lengthOf_25 ?_
  refine aw_iconst (v := 1) (by decide) dX0_lengthOf_26 ?_
  refine aw_iandz (z := 1) (by decide) dX0_lengthOf_27 ?_
  refine aw_iconst (v := 1) (by decide) dX0_lengthOf_28 ?_
  refine aw_icmp_ne (tgt := 36) (by decide) dX0_lengthOf_29 (fun z => absurd z (by decide)) (fun _ => ?_)
  refine aw_iconst (v := 3) (by decide) dX0_lengthOf_32 ?_
  refine aw_goto (tgt := 37) (by decide) dX0_lengthOf_33 ?_
  refine aw_iaddz (z := 10) (by decide) dX0_lengthOf_37 ?_
  refine aw_istore_n (L2 := [some (.int 13), some (.int 3), some (.int 10), some (.int 1)]) (by decide) rfl rfl dX0_lengthOf_38 ?_
  refine aw_iinc (x := 1) (v := 2) (L2 := [some (.int 13), some (.int 3), some (.int 10), some (.int 2)]) rfl (by decide) (by decide) rfl rfl dX0_lengthOf_39 ?_
  refine aw_goto (tgt := 15) (by decide) dX0_lengthOf_42 ?_
  refine aw_iload_n (x := 2) rfl dX0_lengthOf_15 ?_
  refine aw_iload_n (x := 3) rfl dX0_lengthOf_16 ?_
  refine aw_icmp_ge (tgt := 45) (by decide) dX0_lengthOf_17 (fun z => absurd z (by decide)) (fun _ => ?_)
  refine aw_iload_n (x := 10) rfl dX0_lengthOf_20 ?_
  refine aw_iload_n (x := 13) rfl dX0_lengthOf_21 ?_
  refine aw_iconst (v := 1) (by decide) dX0_lengthOf_22 ?_
  refine aw_iaddz (z := 14) (by decide) dX0_lengthOf_23 ?_
  refine aw_iload_n (x := 2) rfl dX0_lengthOf_24 ?_
  refine aw_ishrz (z := 3) (by decide) dX0_lengthOf_25 ?_
  refine aw_iconst (v := 1) (by decide) dX0_lengthOf_26 ?_
  refine aw_iandz (z := 1) (by decide) dX0_lengthOf_27 ?_
  refine aw_iconst (v := 1) (by decide) dX0_lengthOf_28 ?_
  refine aw_icmp_ne (tgt := 36) (by decide) dX0_lengthOf_29 (fun z => absurd z (by decide)) (fun _ => ?_)
  refine aw_iconst (v := 3) (by decide) dX0_lengthOf_32 ?_
  refine aw_goto (tgt := 37) (by decide) dX0_lengthOf_33 ?_
  refine aw_iaddz (z := 13) (by decide) dX0_lengthOf_37 ?_
  refine aw_istore_n (L2 := [some (.int 13), some (.int 3), some (.int 13), some (.int 2)]) (by decide) rfl rfl dX0_lengthOf_38 ?_
  refine aw_iinc (x := 2) (v := 3) (L2 := [some (.int 13), some (.int 3), some (.int 13), some (.int 3)]) rfl (by decide) (by decide) rfl rfl dX0_lengthOf_39 ?_
  refine aw_goto (tgt := 15) (by decide) dX0_lengthOf_42 ?_
  refine aw_iload_n (x := 3) rfl dX0_lengthOf_15 ?_
  refine aw_iload_n (x := 3) rfl dX0_lengthOf_16 ?_
  refine aw_icmp_ge (tgt := 45) (by decide) dX0_lengthOf_17 (fun _ => ?_) (fun z => absurd z (by decide))
  refine aw_iload_n (x := 13) rfl dX0_lengthOf_45 ?_
  exact aw_iret rfl (by decide) (by decide) dX0_lengthOf_46 ⟨by first | rfl | (simp [wd_w_row, row_self, row_row]; done) | (simp_all [wd_w_row, row_self, row_row]; done), by first | rfl | (simp [wd_w_row, row_self, row_row]; done) | (simp_all [wd_w_row, row_self, row_row]; done)⟩
theorem ct_X0_soundAt_13 {ad : Nat → Nat → Nat → Nat} {o : wd_S} {t : Int32} : CT ad MX0_soundAt [.int 13, .int t] o (RT (some (.int (tc_s13 t))) o) := by
  refine CT.of (L := [some (.int 13), some (.int t), none, none, none, none, none]) rfl rfl (by decide) (Nat.le_of_ble_eq_true rfl) rfl ?_
  refine aw_iload_n (x := 13) rfl dX0_soundAt_0 ?_
  refine aw_rS (v := some (.int 3)) (o2 := o) ct_X0_ringCount_13 (mm_fit_of cbX0_ringCount (by decide) (by decide)) wq303 wq304 rfl rfl (Nat.le_of_ble_eq_true rfl) (by decide) (by decide) rfl dX0_soundAt_1 ?_
  refine aw_istore_n (L2 := [some (.int 13), some (.int t), some (.int 3), none, none, none, none]) (by decide) rfl rfl dX0_soundAt_4 ?_
  refine aw_iconst (v := 0) (by decide) dX0_soundAt_5 ?_
  refine aw_istore_n (L2 := [some (.int 13), some (.int t), some (.int 3), some (.int 0), none, none, none]) (by decide) rfl rfl dX0_soundAt_6 ?_
  refine aw_iconst (v := 0) (by decide) dX0_soundAt_7 ?_
  refine aw_istore (L2 := [some (.int 13), some (.int t), some (.int 3), some (.int 0), some (.int 0), none, none]) (by decide) rfl rfl dX0_soundAt_8 ?_
  refine aw_iload (x := 0) rfl dX0_soundAt_10 ?_
  refine aw_iload_n (x := 3) rfl dX0_soundAt_12 ?_
  refine aw_icmp_ge (tgt := 71) (by decide) dX0_soundAt_13 (fun z => absurd z (by decide)) (fun _ => ?_)
  refine aw_iload_n (x := 13) rfl dX0_soundAt_16 ?_
  refine aw_iload (x := 0) rfl dX0_soundAt_17 ?_
  refine aw_rS (v := some (.int 1)) (o2 := o) ct_X0_isLong_13_0 (mm_fit_of cbX0_isLong (by decide) (by decide)) wq309 wq310 rfl rfl (Nat.le_of_ble_eq_true rfl) (by decide) (by decide) rfl dX0_soundAt_19 ?_
  refine aw_istore (L2 := [some (.int 13), some (.int t), some (.int 3), some (.int 0), some (.int 0), some (.int 1), none]) (by decide) rfl rfl dX0_soundAt_22 ?_
  refine aw_iload_n (x := 0) rfl dX0_soundAt_24 ?_
  refine aw_iload (x := 1) rfl dX0_soundAt_25 ?_
  refine aw_if_eq (tgt := 34) (by decide) dX0_soundAt_27 (fun z => absurd z (by decide)) (fun _ => ?_)
  refine aw_iconst (v := 3) (by decide) dX0_soundAt_30 ?_
  refine aw_goto (tgt := 35) (by decide) dX0_soundAt_31 ?_
  refine aw_iaddz (z := 3) (by decide) dX0_soundAt_35 ?_
  refine aw_istore (L2 := [some (.int 13), some (.int t), some (.int 3), some (.int 0), some (.int 0), some (.int 1), some (.int 3)]) (by decide) rfl rfl dX0_soundAt_36 ?_
  refine aw_iload_n (x := t) rfl dX0_soundAt_38 ?_
  refine aw_iload_n (x := 0) rfl dX0_soundAt_39 ?_
  refine aw_icmp_lt (tgt := 60) (by decide) dX0_soundAt_40 (fun b1 => ?_) (fun b1 => ?_)
  · skip
    refine aw_iload (x := 3) rfl dX0_soundAt_60 ?_
    refine aw_iconst (v := 1) (by decide) dX0_soundAt_62 ?_
    refine aw_iaddz (z := 4) (by decide) dX0_soundAt_63 ?_
    refine aw_istore_n (L2 := [some (.int 13), some (.int t), some (.int 3), some (.int 4), some (.int 0), some (.int 1), some (.int 3)]) (by decide) rfl rfl dX0_soundAt_64 ?_
    refine aw_iinc (x := 0) (v := 1) (L2 := [some (.int 13), some (.int t), some (.int 3), some (.int 4), some (.int 1), some (.int 1), some (.int 3)]) rfl (by decide) (by decide) rfl rfl dX0_soundAt_65 ?_
    refine aw_goto (tgt := 10) (by decide) dX0_soundAt_68 ?_
    refine aw_iload (x := 1) rfl dX0_soundAt_10 ?_
    refine aw_iload_n (x := 3) rfl dX0_soundAt_12 ?_
    refine aw_icmp_ge (tgt := 71) (by decide) dX0_soundAt_13 (fun z => absurd z (by decide)) (fun _ => ?_)
    refine aw_iload_n (x := 13) rfl dX0_soundAt_16 ?_
    refine aw_iload (x := 1) rfl dX0_soundAt_17 ?_
    refine aw_rS (v := some (.int 1)) (o2 := o) ct_X0_isLong_13_1 (mm_fit_of cbX0_isLong (by decide) (by decide)) wq309 wq310 rfl rfl (Nat.le_of_ble_eq_true rfl) (by decide) (by decide) rfl dX0_soundAt_19 ?_
    refine aw_istore (L2 := [some (.int 13), some (.int t), some (.int 3), some (.int 4), some (.int 1), some (.int 1), some (.int 3)]) (by decide) rfl rfl dX0_soundAt_22 ?_
    refine aw_iload_n (x := 4) rfl dX0_soundAt_24 ?_
    refine aw_iload (x := 1) rfl dX0_soundAt_25 ?_
    refine aw_if_eq (tgt := 34) (by decide) dX0_soundAt_27 (fun z => absurd z (by decide)) (fun _ => ?_)
    refine aw_iconst (v := 3) (by decide) dX0_soundAt_30 ?_
    refine aw_goto (tgt := 35) (by decide) dX0_soundAt_31 ?_
    refine aw_iaddz (z := 7) (by decide) dX0_soundAt_35 ?_
    refine aw_istore (L2 := [some (.int 13), some (.int t), some (.int 3), some (.int 4), some (.int 1), some (.int 1), some (.int 7)]) (by decide) rfl rfl dX0_soundAt_36 ?_
    refine aw_iload_n (x := t) rfl dX0_soundAt_38 ?_
    refine aw_iload_n (x := 4) rfl dX0_soundAt_39 ?_
    refine aw_icmp_lt (tgt := 60) (by decide) dX0_soundAt_40 (fun b2 => ?_) (fun b2 => ?_)
    · skip
      refine aw_iload (x := 7) rfl dX0_soundAt_60 ?_
      refine aw_iconst (v := 1) (by decide) dX0_soundAt_62 ?_
      refine aw_iaddz (z := 8) (by decide) dX0_soundAt_63 ?_
      refine aw_istore_n (L2 := [some (.int 13), some (.int t), some (.int 3), some (.int 8), some (.int 1), some (.int 1), some (.int 7)]) (by decide) rfl rfl dX0_soundAt_64 ?_
      refine aw_iinc (x := 1) (v := 2) (L2 := [some (.int 13), some (.int t), some (.int 3), some (.int 8), some (.int 2), some (.int 1), some (.int 7)]) rfl (by decide) (by decide) rfl rfl dX0_soundAt_65 ?_
      refine aw_goto (tgt := 10) (by decide) dX0_soundAt_68 ?_
      refine aw_iload (x := 2) rfl dX0_soundAt_10 ?_
      refine aw_iload_n (x := 3) rfl dX0_soundAt_12 ?_
      refine aw_icmp_ge (tgt := 71) (by decide) dX0_soundAt_13 (fun z => absurd z (by decide)) (fun _ => ?_)
      refine aw_iload_n (x := 13) rfl dX0_soundAt_16 ?_
      refine aw_iload (x := 2) rfl dX0_soundAt_17 ?_
      refine aw_rS (v := some (.int 0)) (o2 := o) ct_X0_isLong_13_2 (mm_fit_of cbX0_isLong (by decide) (by decide)) wq309 wq310 rfl rfl (Nat.le_of_ble_eq_true rfl) (by decide) (by decide) rfl dX0_soundAt_19 ?_
      refine aw_istore (L2 := [some (.int 13), some (.int t), some (.int 3), some (.int 8), some (.int 2), some (.int 0), some (.int 7)]) (by decide) rfl rfl dX0_soundAt_22 ?_
      refine aw_iload_n (x := 8) rfl dX0_soundAt_24 ?_
      refine aw_iload (x := 0) rfl dX0_soundAt_25 ?_
      refine aw_if_eq (tgt := 34) (by decide) dX0_soundAt_27 (fun _ => ?_) (fun z => absurd z (by decide))
      refine aw_iconst (v := 1) (by decide) dX0_soundAt_34 ?_
      refine aw_iaddz (z := 9) (by decide) dX0_soundAt_35 ?_
      refine aw_istore (L2 := [some (.int 13), some (.int t), some (.int 3), some (.int 8), some (.int 2), some (.int 0), some (.int 9)]) (by decide) rfl rfl dX0_soundAt_36 ?_
      refine aw_iload_n (x := t) rfl dX0_soundAt_38 ?_
      refine aw_iload_n (x := 8) rfl dX0_soundAt_39 ?_
      refine aw_icmp_lt (tgt := 60) (by decide) dX0_soundAt_40 (fun b3 => ?_) (fun b3 => ?_)
      · skip
        refine aw_iload (x := 9) rfl dX0_soundAt_60 ?_
        refine aw_iconst (v := 1) (by decide) dX0_soundAt_62 ?_
        refine aw_iaddz (z := 10) (by decide) dX0_soundAt_63 ?_
        refine aw_istore_n (L2 := [some (.int 13), some (.int t), some (.int 3), some (.int 10), some (.int 2), some (.int 0), some (.int 9)]) (by decide) rfl rfl dX0_soundAt_64 ?_
        refine aw_iinc (x := 2) (v := 3) (L2 := [some (.int 13), some (.int t), some (.int 3), some (.int 10), some (.int 3), some (.int 0), some (.int 9)]) rfl (by decide) (by decide) rfl rfl dX0_soundAt_65 ?_
        refine aw_goto (tgt := 10) (by decide) dX0_soundAt_68 ?_
        refine aw_iload (x := 3) rfl dX0_soundAt_10 ?_
        refine aw_iload_n (x := 3) rfl dX0_soundAt_12 ?_
        refine aw_icmp_ge (tgt := 71) (by decide) dX0_soundAt_13 (fun _ => ?_) (fun z => absurd z (by decide))
        refine aw_iconst (v := 0) (by decide) dX0_soundAt_71 ?_
        exact aw_iret rfl (by decide) (by decide) dX0_soundAt_72 ⟨by first | rfl | (simp [tc_s13, wd_w_row, row_self, row_row, b1, b2, b3]; done) | (simp_all [tc_s13, wd_w_row, row_self, row_row, b1, b2, b3]; done), by first | rfl | (simp [tc_s13, wd_w_row, row_self, row_row, b1, b2, b3]; done) | (simp_all [tc_s13, wd_w_row, row_self, row_row, b1, b2, b3]; done)⟩
      · skip
        refine aw_iload_n (x := t) rfl dX0_soundAt_43 ?_
        refine aw_iload (x := 9) rfl dX0_soundAt_44 ?_
        refine aw_icmp_ge (tgt := 60) (by decide) dX0_soundAt_46 (fun b4 => ?_) (fun b4 => ?_)
        · skip
          refine aw_iload (x := 9) rfl dX0_soundAt_60 ?_
          refine aw_iconst (v := 1) (by decide) dX0_soundAt_62 ?_
          refine aw_iaddz (z := 10) (by decide) dX0_soundAt_63 ?_
          refine aw_istore_n (L2 := [some (.int 13), some (.int t), some (.int 3), some (.int 10), some (.int 2), some (.int 0), some (.int 9)]) (by decide) rfl rfl dX0_soundAt_64 ?_
          refine aw_iinc (x := 2) (v := 3) (L2 := [some (.int 13), some (.int t), some (.int 3), some (.int 10), some (.int 3), some (.int 0), some (.int 9)]) rfl (by decide) (by decide) rfl rfl dX0_soundAt_65 ?_
          refine aw_goto (tgt := 10) (by decide) dX0_soundAt_68 ?_
          refine aw_iload (x := 3) rfl dX0_soundAt_10 ?_
          refine aw_iload_n (x := 3) rfl dX0_soundAt_12 ?_
          refine aw_icmp_ge (tgt := 71) (by decide) dX0_soundAt_13 (fun _ => ?_) (fun z => absurd z (by decide))
          refine aw_iconst (v := 0) (by decide) dX0_soundAt_71 ?_
          exact aw_iret rfl (by decide) (by decide) dX0_soundAt_72 ⟨by first | rfl | (simp [tc_s13, wd_w_row, row_self, row_row, b1, b2, b3, b4]; done) | (simp_all [tc_s13, wd_w_row, row_self, row_row, b1, b2, b3, b4]; done), by first | rfl | (simp [tc_s13, wd_w_row, row_self, row_row, b1, b2, b3, b4]; done) | (simp_all [tc_s13, wd_w_row, row_self, row_row, b1, b2, b3, b4]; done)⟩
        · skip
          refine aw_iload (x := 0) rfl dX0_soundAt_49 ?_
          refine aw_if_eq (tgt := 58) (by decide) dX0_soundAt_51 (fun _ => ?_) (fun z => absurd z (by decide))
          refine aw_iconst (v := 1) (by decide) dX0_soundAt_58 ?_
          exact aw_iret rfl (by decide) (by decide) dX0_soundAt_59 ⟨by first | rfl | (simp [tc_s13, wd_w_row, row_self, row_row, b1, b2, b3, b4]; done) | (simp_all [tc_s13, wd_w_row, row_self, row_row, b1, b2, b3, b4]; done), by first | rfl | (simp [tc_s13, wd_w_row, row_self, row_row, b1, b2, b3, b4]; done) | (simp_all [tc_s13, wd_w_row, row_self, row_row, b1, b2, b3, b4]; done)⟩
    · skip
      refine aw_iload_n (x := t) rfl dX0_soundAt_43 ?_
      refine aw_iload (x := 7) rfl dX0_soundAt_44 ?_
      refine aw_icmp_ge (tgt := 60) (by decide) dX0_soundAt_46 (fun b5 => ?_) (fun b5 => ?_)
      · skip
        refine aw_iload (x := 7) rfl dX0_soundAt_60 ?_
        refine aw_iconst (v := 1) (by decide) dX0_soundAt_62 ?_
        refine aw_iaddz (z := 8) (by decide) dX0_soundAt_63 ?_
        refine aw_istore_n (L2 := [some (.int 13), some (.int t), some (.int 3), some (.int 8), some (.int 1), some (.int 1), some (.int 7)]) (by decide) rfl rfl dX0_soundAt_64 ?_
        refine aw_iinc (x := 1) (v := 2) (L2 := [some (.int 13), some (.int t), some (.int 3), some (.int 8), some (.int 2), some (.int 1), some (.int 7)]) rfl (by decide) (by decide) rfl rfl dX0_soundAt_65 ?_
        refine aw_goto (tgt := 10) (by decide) dX0_soundAt_68 ?_
        refine aw_iload (x := 2) rfl dX0_soundAt_10 ?_
        refine aw_iload_n (x := 3) rfl dX0_soundAt_12 ?_
        refine aw_icmp_ge (tgt := 71) (by decide) dX0_soundAt_13 (fun z => absurd z (by decide)) (fun _ => ?_)
        refine aw_iload_n (x := 13) rfl dX0_soundAt_16 ?_
        refine aw_iload (x := 2) rfl dX0_soundAt_17 ?_
        refine aw_rS (v := some (.int 0)) (o2 := o) ct_X0_isLong_13_2 (mm_fit_of cbX0_isLong (by decide) (by decide)) wq309 wq310 rfl rfl (Nat.le_of_ble_eq_true rfl) (by decide) (by decide) rfl dX0_soundAt_19 ?_
        refine aw_istore (L2 := [some (.int 13), some (.int t), some (.int 3), some (.int 8), some (.int 2), some (.int 0), some (.int 7)]) (by decide) rfl rfl dX0_soundAt_22 ?_
        refine aw_iload_n (x := 8) rfl dX0_soundAt_24 ?_
        refine aw_iload (x := 0) rfl dX0_soundAt_25 ?_
        refine aw_if_eq (tgt := 34) (by decide) dX0_soundAt_27 (fun _ => ?_) (fun z => absurd z (by decide))
        refine aw_iconst (v := 1) (by decide) dX0_soundAt_34 ?_
        refine aw_iaddz (z := 9) (by decide) dX0_soundAt_35 ?_
        refine aw_istore (L2 := [some (.int 13), some (.int t), some (.int 3), some (.int 8), some (.int 2), some (.int 0), some (.int 9)]) (by decide) rfl rfl dX0_soundAt_36 ?_
        refine aw_iload_n (x := t) rfl dX0_soundAt_38 ?_
        refine aw_iload_n (x := 8) rfl dX0_soundAt_39 ?_
        refine aw_icmp_lt (tgt := 60) (by decide) dX0_soundAt_40 (fun b6 => ?_) (fun b6 => ?_)
        · skip
          refine aw_iload (x := 9) rfl dX0_soundAt_60 ?_
          refine aw_iconst (v := 1) (by decide) dX0_soundAt_62 ?_
          refine aw_iaddz (z := 10) (by decide) dX0_soundAt_63 ?_
          refine aw_istore_n (L2 := [some (.int 13), some (.int t), some (.int 3), some (.int 10), some (.int 2), some (.int 0), some (.int 9)]) (by decide) rfl rfl dX0_soundAt_64 ?_
          refine aw_iinc (x := 2) (v := 3) (L2 := [some (.int 13), some (.int t), some (.int 3), some (.int 10), some (.int 3), some (.int 0), some (.int 9)]) rfl (by decide) (by decide) rfl rfl dX0_soundAt_65 ?_
          refine aw_goto (tgt := 10) (by decide) dX0_soundAt_68 ?_
          refine aw_iload (x := 3) rfl dX0_soundAt_10 ?_
          refine aw_iload_n (x := 3) rfl dX0_soundAt_12 ?_
          refine aw_icmp_ge (tgt := 71) (by decide) dX0_soundAt_13 (fun _ => ?_) (fun z => absurd z (by decide))
          refine aw_iconst (v := 0) (by decide) dX0_soundAt_71 ?_
          exact aw_iret rfl (by decide) (by decide) dX0_soundAt_72 ⟨by first | rfl | (simp [tc_s13, wd_w_row, row_self, row_row, b1, b2, b5, b6]; done) | (simp_all [tc_s13, wd_w_row, row_self, row_row, b1, b2, b5, b6]; done), by first | rfl | (simp [tc_s13, wd_w_row, row_self, row_row, b1, b2, b5, b6]; done) | (simp_all [tc_s13, wd_w_row, row_self, row_row, b1, b2, b5, b6]; done)⟩
        · skip
          refine aw_iload_n (x := t) rfl dX0_soundAt_43 ?_
          refine aw_iload (x := 9) rfl dX0_soundAt_44 ?_
          refine aw_icmp_ge (tgt := 60) (by decide) dX0_soundAt_46 (fun b7 => ?_) (fun b7 => ?_)
          · skip
            refine aw_iload (x := 9) rfl dX0_soundAt_60 ?_
            refine aw_iconst (v := 1) (by decide) dX0_soundAt_62 ?_
            refine aw_iaddz (z := 10) (by decide) dX0_soundAt_63 ?_
            refine aw_istore_n (L2 := [some (.int 13), some (.int t), some (.int 3), some (.int 10), some (.int 2), some (.int 0), some (.int 9)]) (by decide) rfl rfl dX0_soundAt_64 ?_
            refine aw_iinc (x := 2) (v := 3) (L2 := [some (.int 13), some (.int t), some (.int 3), some (.int 10), some (.int 3), some (.int 0), some (.int 9)]) rfl (by decide) (by decide) rfl rfl dX0_soundAt_65 ?_
            refine aw_goto (tgt := 10) (by decide) dX0_soundAt_68 ?_
            refine aw_iload (x := 3) rfl dX0_soundAt_10 ?_
            refine aw_iload_n (x := 3) rfl dX0_soundAt_12 ?_
            refine aw_icmp_ge (tgt := 71) (by decide) dX0_soundAt_13 (fun _ => ?_) (fun z => absurd z (by decide))
            refine aw_iconst (v := 0) (by decide) dX0_soundAt_71 ?_
            exact aw_iret rfl (by decide) (by decide) dX0_soundAt_72 ⟨by first | rfl | (simp [tc_s13, wd_w_row, row_self, row_row, b1, b2, b5, b6, b7]; done) | (simp_all [tc_s13, wd_w_row, row_self, row_row, b1, b2, b5, b6, b7]; done), by first | rfl | (simp [tc_s13, wd_w_row, row_self, row_row, b1, b2, b5, b6, b7]; done) | (simp_all [tc_s13, wd_w_row, row_self, row_row, b1, b2, b5, b6, b7]; done)⟩
          · skip
            refine aw_iload (x := 0) rfl dX0_soundAt_49 ?_
            refine aw_if_eq (tgt := 58) (by decide) dX0_soundAt_51 (fun _ => ?_) (fun z => absurd z (by decide))
            refine aw_iconst (v := 1) (by decide) dX0_soundAt_58 ?_
            exact aw_iret rfl (by decide) (by decide) dX0_soundAt_59 ⟨by first | rfl | (simp [tc_s13, wd_w_row, row_self, row_row, b1, b2, b5, b6, b7]; done) | (simp_all [tc_s13, wd_w_row, row_self, row_row, b1, b2, b5, b6, b7]; done), by first | rfl | (simp [tc_s13, wd_w_row, row_self, row_row, b1, b2, b5, b6, b7]; done) | (simp_all [tc_s13, wd_w_row, row_self, row_row, b1, b2, b5, b6, b7]; done)⟩
      · skip
        refine aw_iload (x := 1) rfl dX0_soundAt_49 ?_
        refine aw_if_eq (tgt := 58) (by decide) dX0_soundAt_51 (fun z => absurd z (by decide)) (fun _ => ?_)
        refine aw_iconst (v := 2) (by decide) dX0_soundAt_54 ?_
        refine aw_goto (tgt := 59) (by decide) dX0_soundAt_55 ?_
        exact aw_iret rfl (by decide) (by decide) dX0_soundAt_59 ⟨by first | rfl | (simp [tc_s13, wd_w_row, row_self, row_row, b1, b2, b5]; done) | (simp_all [tc_s13, wd_w_row, row_self, row_row, b1, b2, b5]; done), by first | rfl | (simp [tc_s13, wd_w_row, row_self, row_row, b1, b2, b5]; done) | (simp_all [tc_s13, wd_w_row, row_self, row_row, b1, b2, b5]; done)⟩
  · skip
    refine aw_iload_n (x := t) rfl dX0_soundAt_43 ?_
    refine aw_iload (x := 3) rfl dX0_soundAt_44 ?_
    refine aw_icmp_ge (tgt := 60) (by decide) dX0_soundAt_46 (fun b8 => ?_) (fun b8 => ?_)
    · skip
      refine aw_iload (x := 3) rfl dX0_soundAt_60 ?_
      refine aw_iconst (v := 1) (by decide) dX0_soundAt_62 ?_
      refine aw_iaddz (z := 4) (by decide) dX0_soundAt_63 ?_
      refine aw_istore_n (L2 := [some (.int 13), some (.int t), some (.int 3), some (.int 4), some (.int 0), some (.int 1), some (.int 3)]) (by decide) rfl rfl dX0_soundAt_64 ?_
      refine aw_iinc (x := 0) (v := 1) (L2 := [some (.int 13), some (.int t), some (.int 3), some (.int 4), some (.int 1), some (.int 1), some (.int 3)]) rfl (by decide) (by decide) rfl rfl dX0_soundAt_65 ?_
      refine aw_goto (tgt := 10) (by decide) dX0_soundAt_68 ?_
      refine aw_iload (x := 1) rfl dX0_soundAt_10 ?_
      refine aw_iload_n (x := 3) rfl dX0_soundAt_12 ?_
      refine aw_icmp_ge (tgt := 71) (by decide) dX0_soundAt_13 (fun z => absurd z (by decide)) (fun _ => ?_)
      refine aw_iload_n (x := 13) rfl dX0_soundAt_16 ?_
      refine aw_iload (x := 1) rfl dX0_soundAt_17 ?_
      refine aw_rS (v := some (.int 1)) (o2 := o) ct_X0_isLong_13_1 (mm_fit_of cbX0_isLong (by decide) (by decide)) wq309 wq310 rfl rfl (Nat.le_of_ble_eq_true rfl) (by decide) (by decide) rfl dX0_soundAt_19 ?_
      refine aw_istore (L2 := [some (.int 13), some (.int t), some (.int 3), some (.int 4), some (.int 1), some (.int 1), some (.int 3)]) (by decide) rfl rfl dX0_soundAt_22 ?_
      refine aw_iload_n (x := 4) rfl dX0_soundAt_24 ?_
      refine aw_iload (x := 1) rfl dX0_soundAt_25 ?_
      refine aw_if_eq (tgt := 34) (by decide) dX0_soundAt_27 (fun z => absurd z (by decide)) (fun _ => ?_)
      refine aw_iconst (v := 3) (by decide) dX0_soundAt_30 ?_
      refine aw_goto (tgt := 35) (by decide) dX0_soundAt_31 ?_
      refine aw_iaddz (z := 7) (by decide) dX0_soundAt_35 ?_
      refine aw_istore (L2 := [some (.int 13), some (.int t), some (.int 3), some (.int 4), some (.int 1), some (.int 1), some (.int 7)]) (by decide) rfl rfl dX0_soundAt_36 ?_
      refine aw_iload_n (x := t) rfl dX0_soundAt_38 ?_
      refine aw_iload_n (x := 4) rfl dX0_soundAt_39 ?_
      refine aw_icmp_lt (tgt := 60) (by decide) dX0_soundAt_40 (fun b9 => ?_) (fun b9 => ?_)
      · skip
        refine aw_iload (x := 7) rfl dX0_soundAt_60 ?_
        refine aw_iconst (v := 1) (by decide) dX0_soundAt_62 ?_
        refine aw_iaddz (z := 8) (by decide) dX0_soundAt_63 ?_
        refine aw_istore_n (L2 := [some (.int 13), some (.int t), some (.int 3), some (.int 8), some (.int 1), some (.int 1), some (.int 7)]) (by decide) rfl rfl dX0_soundAt_64 ?_
        refine aw_iinc (x := 1) (v := 2) (L2 := [some (.int 13), some (.int t), some (.int 3), some (.int 8), some (.int 2), some (.int 1), some (.int 7)]) rfl (by decide) (by decide) rfl rfl dX0_soundAt_65 ?_
        refine aw_goto (tgt := 10) (by decide) dX0_soundAt_68 ?_
        refine aw_iload (x := 2) rfl dX0_soundAt_10 ?_
        refine aw_iload_n (x := 3) rfl dX0_soundAt_12 ?_
        refine aw_icmp_ge (tgt := 71) (by decide) dX0_soundAt_13 (fun z => absurd z (by decide)) (fun _ => ?_)
        refine aw_iload_n (x := 13) rfl dX0_soundAt_16 ?_
        refine aw_iload (x := 2) rfl dX0_soundAt_17 ?_
        refine aw_rS (v := some (.int 0)) (o2 := o) ct_X0_isLong_13_2 (mm_fit_of cbX0_isLong (by decide) (by decide)) wq309 wq310 rfl rfl (Nat.le_of_ble_eq_true rfl) (by decide) (by decide) rfl dX0_soundAt_19 ?_
        refine aw_istore (L2 := [some (.int 13), some (.int t), some (.int 3), some (.int 8), some (.int 2), some (.int 0), some (.int 7)]) (by decide) rfl rfl dX0_soundAt_22 ?_
        refine aw_iload_n (x := 8) rfl dX0_soundAt_24 ?_
        refine aw_iload (x := 0) rfl dX0_soundAt_25 ?_
        refine aw_if_eq (tgt := 34) (by decide) dX0_soundAt_27 (fun _ => ?_) (fun z => absurd z (by decide))
        refine aw_iconst (v := 1) (by decide) dX0_soundAt_34 ?_
        refine aw_iaddz (z := 9) (by decide) dX0_soundAt_35 ?_
        refine aw_istore (L2 := [some (.int 13), some (.int t), some (.int 3), some (.int 8), some (.int 2), some (.int 0), some (.int 9)]) (by decide) rfl rfl dX0_soundAt_36 ?_
        refine aw_iload_n (x := t) rfl dX0_soundAt_38 ?_
        refine aw_iload_n (x := 8) rfl dX0_soundAt_39 ?_
        refine aw_icmp_lt (tgt := 60) (by decide) dX0_soundAt_40 (fun b10 => ?_) (fun b10 => ?_)
        · skip
          refine aw_iload (x := 9) rfl dX0_soundAt_60 ?_
          refine aw_iconst (v := 1) (by decide) dX0_soundAt_62 ?_
          refine aw_iaddz (z := 10) (by decide) dX0_soundAt_63 ?_
          refine aw_istore_n (L2 := [some (.int 13), some (.int t), some (.int 3), some (.int 10), some (.int 2), some (.int 0), some (.int 9)]) (by decide) rfl rfl dX0_soundAt_64 ?_
          refine aw_iinc (x := 2) (v := 3) (L2 := [some (.int 13), some (.int t), some (.int 3), some (.int 10), some (.int 3), some (.int 0), some (.int 9)]) rfl (by decide) (by decide) rfl rfl dX0_soundAt_65 ?_
          refine aw_goto (tgt := 10) (by decide) dX0_soundAt_68 ?_
          refine aw_iload (x := 3) rfl dX0_soundAt_10 ?_
          refine aw_iload_n (x := 3) rfl dX0_soundAt_12 ?_
          refine aw_icmp_ge (tgt := 71) (by decide) dX0_soundAt_13 (fun _ => ?_) (fun z => absurd z (by decide))
          refine aw_iconst (v := 0) (by decide) dX0_soundAt_71 ?_
          exact aw_iret rfl (by decide) (by decide) dX0_soundAt_72 ⟨by first | rfl | (simp [tc_s13, wd_w_row, row_self, row_row, b1, b8, b9, b10]; done) | (simp_all [tc_s13, wd_w_row, row_self, row_row, b1, b8, b9, b10]; done), by first | rfl | (simp [tc_s13, wd_w_row, row_self, row_row, b1, b8, b9, b10]; done) | (simp_all [tc_s13, wd_w_row, row_self, row_row, b1, b8, b9, b10]; done)⟩
        · skip
          refine aw_iload_n (x := t) rfl dX0_soundAt_43 ?_
          refine aw_iload (x := 9) rfl dX0_soundAt_44 ?_
          refine aw_icmp_ge (tgt := 60) (by decide) dX0_soundAt_46 (fun b11 => ?_) (fun b11 => ?_)
          · skip
            refine aw_iload (x := 9) rfl dX0_soundAt_60 ?_
            refine aw_iconst (v := 1) (by decide) dX0_soundAt_62 ?_
            refine aw_iaddz (z := 10) (by decide) dX0_soundAt_63 ?_
            refine aw_istore_n (L2 := [some (.int 13), some (.int t), some (.int 3), some (.int 10), some (.int 2), some (.int 0), some (.int 9)]) (by decide) rfl rfl dX0_soundAt_64 ?_
            refine aw_iinc (x := 2) (v := 3) (L2 := [some (.int 13), some (.int t), some (.int 3), some (.int 10), some (.int 3), some (.int 0), some (.int 9)]) rfl (by decide) (by decide) rfl rfl dX0_soundAt_65 ?_
            refine aw_goto (tgt := 10) (by decide) dX0_soundAt_68 ?_
            refine aw_iload (x := 3) rfl dX0_soundAt_10 ?_
            refine aw_iload_n (x := 3) rfl dX0_soundAt_12 ?_
            refine aw_icmp_ge (tgt := 71) (by decide) dX0_soundAt_13 (fun _ => ?_) (fun z => absurd z (by decide))
            refine aw_iconst (v := 0) (by decide) dX0_soundAt_71 ?_
            exact aw_iret rfl (by decide) (by decide) dX0_soundAt_72 ⟨by first | rfl | (simp [tc_s13, wd_w_row, row_self, row_row, b1, b8, b9, b10, b11]; done) | (simp_all [tc_s13, wd_w_row, row_self, row_row, b1, b8, b9, b10, b11]; done), by first | rfl | (simp [tc_s13, wd_w_row, row_self, row_row, b1, b8, b9, b10, b11]; done) | (simp_all [tc_s13, wd_w_row, row_self, row_row, b1, b8, b9, b10, b11]; done)⟩
          · skip
            refine aw_iload (x := 0) rfl dX0_soundAt_49 ?_
            refine aw_if_eq (tgt := 58) (by decide) dX0_soundAt_51 (fun _ => ?_) (fun z => absurd z (by decide))
            refine aw_iconst (v := 1) (by decide) dX0_soundAt_58 ?_
            exact aw_iret rfl (by decide) (by decide) dX0_soundAt_59 ⟨by first | rfl | (simp [tc_s13, wd_w_row, row_self, row_row, b1, b8, b9, b10, b11]; done) | (simp_all [tc_s13, wd_w_row, row_self, row_row, b1, b8, b9, b10, b11]; done), by first | rfl | (simp [tc_s13, wd_w_row, row_self, row_row, b1, b8, b9, b10, b11]; done) | (simp_all [tc_s13, wd_w_row, row_self, row_row, b1, b8, b9, b10, b11]; done)⟩
      · skip
        refine aw_iload_n (x := t) rfl dX0_soundAt_43 ?_
        refine aw_iload (x := 7) rfl dX0_soundAt_44 ?_
        refine aw_icmp_ge (tgt := 60) (by decide) dX0_soundAt_46 (fun b12 => ?_) (fun b12 => ?_)
        · skip
          refine aw_iload (x := 7) rfl dX0_soundAt_60 ?_
          refine aw_iconst (v := 1) (by decide) dX0_soundAt_62 ?_
          refine aw_iaddz (z := 8) (by decide) dX0_soundAt_63 ?_
          refine aw_istore_n (L2 := [some (.int 13), some (.int t), some (.int 3), some (.int 8), some (.int 1), some (.int 1), some (.int 7)]) (by decide) rfl rfl dX0_soundAt_64 ?_
          refine aw_iinc (x := 1) (v := 2) (L2 := [some (.int 13), some (.int t), some (.int 3), some (.int 8), some (.int 2), some (.int 1), some (.int 7)]) rfl (by decide) (by decide) rfl rfl dX0_soundAt_65 ?_
          refine aw_goto (tgt := 10) (by decide) dX0_soundAt_68 ?_
          refine aw_iload (x := 2) rfl dX0_soundAt_10 ?_
          refine aw_iload_n (x := 3) rfl dX0_soundAt_12 ?_
          refine aw_icmp_ge (tgt := 71) (by decide) dX0_soundAt_13 (fun z => absurd z (by decide)) (fun _ => ?_)
          refine aw_iload_n (x := 13) rfl dX0_soundAt_16 ?_
          refine aw_iload (x := 2) rfl dX0_soundAt_17 ?_
          refine aw_rS (v := some (.int 0)) (o2 := o) ct_X0_isLong_13_2 (mm_fit_of cbX0_isLong (by decide) (by decide)) wq309 wq310 rfl rfl (Nat.le_of_ble_eq_true rfl) (by decide) (by decide) rfl dX0_soundAt_19 ?_
          refine aw_istore (L2 := [some (.int 13), some (.int t), some (.int 3), some (.int 8), some (.int 2), some (.int 0), some (.int 7)]) (by decide) rfl rfl dX0_soundAt_22 ?_
          refine aw_iload_n (x := 8) rfl dX0_soundAt_24 ?_
          refine aw_iload (x := 0) rfl dX0_soundAt_25 ?_
          refine aw_if_eq (tgt := 34) (by decide) dX0_soundAt_27 (fun _ => ?_) (fun z => absurd z (by decide))
          refine aw_iconst (v := 1) (by decide) dX0_soundAt_34 ?_
          refine aw_iaddz (z := 9) (by decide) dX0_soundAt_35 ?_
          refine aw_istore (L2 := [some (.int 13), some (.int t), some (.int 3), some (.int 8), some (.int 2), some (.int 0), some (.int 9)]) (by decide) rfl rfl dX0_soundAt_36 ?_
          refine aw_iload_n (x := t) rfl dX0_soundAt_38 ?_
          refine aw_iload_n (x := 8) rfl dX0_soundAt_39 ?_
          refine aw_icmp_lt (tgt := 60) (by decide) dX0_soundAt_40 (fun b13 => ?_) (fun b13 => ?_)
          · skip
            refine aw_iload (x := 9) rfl dX0_soundAt_60 ?_
            refine aw_iconst (v := 1) (by decide) dX0_soundAt_62 ?_
            refine aw_iaddz (z := 10) (by decide) dX0_soundAt_63 ?_
            refine aw_istore_n (L2 := [some (.int 13), some (.int t), some (.int 3), some (.int 10), some (.int 2), some (.int 0), some (.int 9)]) (by decide) rfl rfl dX0_soundAt_64 ?_
            refine aw_iinc (x := 2) (v := 3) (L2 := [some (.int 13), some (.int t), some (.int 3), some (.int 10), some (.int 3), some (.int 0), some (.int 9)]) rfl (by decide) (by decide) rfl rfl dX0_soundAt_65 ?_
            refine aw_goto (tgt := 10) (by decide) dX0_soundAt_68 ?_
            refine aw_iload (x := 3) rfl dX0_soundAt_10 ?_
            refine aw_iload_n (x := 3) rfl dX0_soundAt_12 ?_
            refine aw_icmp_ge (tgt := 71) (by decide) dX0_soundAt_13 (fun _ => ?_) (fun z => absurd z (by decide))
            refine aw_iconst (v := 0) (by decide) dX0_soundAt_71 ?_
            exact aw_iret rfl (by decide) (by decide) dX0_soundAt_72 ⟨by first | rfl | (simp [tc_s13, wd_w_row, row_self, row_row, b1, b8, b9, b12, b13]; done) | (simp_all [tc_s13, wd_w_row, row_self, row_row, b1, b8, b9, b12, b13]; done), by first | rfl | (simp [tc_s13, wd_w_row, row_self, row_row, b1, b8, b9, b12, b13]; done) | (simp_all [tc_s13, wd_w_row, row_self, row_row, b1, b8, b9, b12, b13]; done)⟩
          · skip
            refine aw_iload_n (x := t) rfl dX0_soundAt_43 ?_
            refine aw_iload (x := 9) rfl dX0_soundAt_44 ?_
            refine aw_icmp_ge (tgt := 60) (by decide) dX0_soundAt_46 (fun b14 => ?_) (fun b14 => ?_)
            · skip
              refine aw_iload (x := 9) rfl dX0_soundAt_60 ?_
              refine aw_iconst (v := 1) (by decide) dX0_soundAt_62 ?_
              refine aw_iaddz (z := 10) (by decide) dX0_soundAt_63 ?_
              refine aw_istore_n (L2 := [some (.int 13), some (.int t), some (.int 3), some (.int 10), some (.int 2), some (.int 0), some (.int 9)]) (by decide) rfl rfl dX0_soundAt_64 ?_
              refine aw_iinc (x := 2) (v := 3) (L2 := [some (.int 13), some (.int t), some (.int 3), some (.int 10), some (.int 3), some (.int 0), some (.int 9)]) rfl (by decide) (by decide) rfl rfl dX0_soundAt_65 ?_
              refine aw_goto (tgt := 10) (by decide) dX0_soundAt_68 ?_
              refine aw_iload (x := 3) rfl dX0_soundAt_10 ?_
              refine aw_iload_n (x := 3) rfl dX0_soundAt_12 ?_
              refine aw_icmp_ge (tgt := 71) (by decide) dX0_soundAt_13 (fun _ => ?_) (fun z => absurd z (by decide))
              refine aw_iconst (v := 0) (by decide) dX0_soundAt_71 ?_
              exact aw_iret rfl (by decide) (by decide) dX0_soundAt_72 ⟨by first | rfl | (simp [tc_s13, wd_w_row, row_self, row_row, b1, b8, b9, b12, b13, b14]; done) | (simp_all [tc_s13, wd_w_row, row_self, row_row, b1, b8, b9, b12, b13, b14]; done), by first | rfl | (simp [tc_s13, wd_w_row, row_self, row_row, b1, b8, b9, b12, b13, b14]; done) | (simp_all [tc_s13, wd_w_row, row_self, row_row, b1, b8, b9, b12, b13, b14]; done)⟩
            · skip
              refine aw_iload (x := 0) rfl dX0_soundAt_49 ?_
              refine aw_if_eq (tgt := 58) (by decide) dX0_soundAt_51 (fun _ => ?_) (fun z => absurd z (by decide))
              refine aw_iconst (v := 1) (by decide) dX0_soundAt_58 ?_
              exact aw_iret rfl (by decide) (by decide) dX0_soundAt_59 ⟨by first | rfl | (simp [tc_s13, wd_w_row, row_self, row_row, b1, b8, b9, b12, b13, b14]; done) | (simp_all [tc_s13, wd_w_row, row_self, row_row, b1, b8, b9, b12, b13, b14]; done), by first | rfl | (simp [tc_s13, wd_w_row, row_self, row_row, b1, b8, b9, b12, b13, b14]; done) | (simp_all [tc_s13, wd_w_row, row_self, row_row, b1, b8, b9, b12, b13, b14]; done)⟩
        · skip
          refine aw_iload (x := 1) rfl dX0_soundAt_49 ?_
          refine aw_if_eq (tgt := 58) (by decide) dX0_soundAt_51 (fun z => absurd z (by decide)) (fun _ => ?_)
          refine aw_iconst (v := 2) (by decide) dX0_soundAt_54 ?_
          refine aw_goto (tgt := 59) (by decide) dX0_soundAt_55 ?_
          exact aw_iret rfl (by decide) (by decide) dX0_soundAt_59 ⟨by first | rfl | (simp [tc_s13, wd_w_row, row_self, row_row, b1, b8, b9, b12]; done) | (simp_all [tc_s13, wd_w_row, row_self, row_row, b1, b8, b9, b12]; done), by first | rfl | (simp [tc_s13, wd_w_row, row_self, row_row, b1, b8, b9, b12]; done) | (simp_all [tc_s13, wd_w_row, row_self, row_row, b1, b8, b9, b12]; done)⟩
    · skip
      refine aw_iload (x := 1) rfl dX0_soundAt_49 ?_
      refine aw_if_eq (tgt := 58) (by decide) dX0_soundAt_51 (fun z => absurd z (by decide)) (fun _ => ?_)
      refine aw_iconst (v := 2) (by decide) dX0_soundAt_54 ?_
      refine aw_goto (tgt := 59) (by decide) dX0_soundAt_55 ?_
      exact aw_iret rfl (by decide) (by decide) dX0_soundAt_59 ⟨by first | rfl | (simp [tc_s13, wd_w_row, row_self, row_row, b1, b8]; done) | (simp_all [tc_s13, wd_w_row, row_self, row_row, b1, b8]; done), by first | rfl | (simp [tc_s13, wd_w_row, row_self, row_row, b1, b8]; done) | (simp_all [tc_s13, wd_w_row, row_self, row_row, b1, b8]; done)⟩
theorem ct_X0_ringCount_14 {ad : Nat → Nat → Nat → Nat} {o : wd_S}  : CT ad MX0_ringCount [.int 14] o (RT (some (.int 3)) o) := by
  refine CT.of (L := [some (.int 14), none]) rfl rfl (by decide) (Nat.le_of_ble_eq_true rfl) rfl ?_
  refine aw_iconst (v := 0) (by decide) dX0_ringCount_0 ?_
  refine aw_istore_n (L2 := [some (.int 14), some (.int 0)]) (by decide) rfl rfl dX0_ringCount_1 ?_
  refine aw_iload_n (x := 0) rfl dX0_ringCount_2 ?_
  refine aw_iconst (v := 3) (by decide) dX0_ringCount_3 ?_
  refine aw_icmp_ge (tgt := 23) (by decide) dX0_ringCount_4 (fun z => absurd z (by decide)) (fun _ => ?_)
  refine aw_iload_n (x := 14) rfl dX0_ringCount_7 ?_
  refine aw_iconst (v := 1) (by decide) dX0_ringCount_8 ?_
  refine aw_iaddz (z := 15) (by decide) dX0_ringCount_9 ?_
  refine aw_iload_n (x := 0) rfl dX0_ringCount_10 ?_
  refine aw_iconst (v := 1) (by decide) dX0_ringCount_11 ?_
  refine aw_iaddz (z := 1) (by decide) dX0_ringCount_12 ?_
  refine aw_ishrz (z := 7) (by decide) dX0_ringCount_13 ?_
  refine aw_if_eq (tgt := 23) (by decide) dX0_ringCount_14 (fun z => absurd z (by decide)) (fun _ => ?_)
  refine aw_iinc (x := 0) (v := 1) (L2 := [some (.int 14), some (.int 1)]) rfl (by decide) (by decide) rfl rfl dX0_ringCount_17 ?_
  refine aw_goto (tgt := 2) (by decide) dX0_ringCount_20 ?_
  refine aw_iload_n (x := 1) rfl dX0_ringCount_2 ?_
  refine aw_iconst (v := 3) (by decide) dX0_ringCount_3 ?_
  refine aw_icmp_ge (tgt := 23) (by decide) dX0_ringCount_4 (fun z => absurd z (by decide)) (fun _ => ?_)
  refine aw_iload_n (x := 14) rfl dX0_ringCount_7 ?_
  refine aw_iconst (v := 1) (by decide) dX0_ringCount_8 ?_
  refine aw_iaddz (z := 15) (by decide) dX0_ringCount_9 ?_
  refine aw_iload_n (x := 1) rfl dX0_ringCount_10 ?_
  refine aw_iconst (v := 1) (by decide) dX0_ringCount_11 ?_
  refine aw_iaddz (z := 2) (by decide) dX0_ringCount_12 ?_
  refine aw_ishrz (z := 3) (by decide) dX0_ringCount_13 ?_
  refine aw_if_eq (tgt := 23) (by decide) dX0_ringCount_14 (fun z => absurd z (by decide)) (fun _ => ?_)
  refine aw_iinc (x := 1) (v := 2) (L2 := [some (.int 14), some (.int 2)]) rfl (by decide) (by decide) rfl rfl dX0_ringCount_17 ?_
  refine aw_goto (tgt := 2) (by decide) dX0_ringCount_20 ?_
  refine aw_iload_n (x := 2) rfl dX0_ringCount_2 ?_
  refine aw_iconst (v := 3) (by decide) dX0_ringCount_3 ?_
  refine aw_icmp_ge (tgt := 23) (by decide) dX0_ringCount_4 (fun z => absurd z (by decide)) (fun _ => ?_)
  refine aw_iload_n (x := 14) rfl dX0_ringCount_7 ?_
  refine aw_iconst (v := 1) (by decide) dX0_ringCount_8 ?_
  refine aw_iaddz (z := 15) (by decide) dX0_ringCount_9 ?_
  refine aw_iload_n (x := 2) rfl dX0_ringCount_10 ?_
  refine aw_iconst (v := 1) (by decide) dX0_ringCount_11 ?_
  refine aw_iaddz (z := 3) (by decide) dX0_ringCount_12 ?_
  refine aw_ishrz (z := 1) (by decide) dX0_ringCount_13 ?_
  refine aw_if_eq (tgt := 23) (by decide) dX0_ringCount_14 (fun z => absurd z (by decide)) (fun _ => ?_)
  refine aw_iinc (x := 2) (v := 3) (L2 := [some (.int 14), some (.int 3)]) rfl (by decide) (by decide) rfl rfl dX0_ringCount_17 ?_
  refine aw_goto (tgt := 2) (by decide) dX0_ringCount_20 ?_
  refine aw_iload_n (x := 3) rfl dX0_ringCount_2 ?_
  refine aw_iconst (v := 3) (by decide) dX0_ringCount_3 ?_
  refine aw_icmp_ge (tgt := 23) (by decide) dX0_ringCount_4 (fun _ => ?_) (fun z => absurd z (by decide))
  refine aw_iload_n (x := 3) rfl dX0_ringCount_23 ?_
  exact aw_iret rfl (by decide) (by decide) dX0_ringCount_24 ⟨by first | rfl | (simp [wd_w_row, row_self, row_row]; done) | (simp_all [wd_w_row, row_self, row_row]; done), by first | rfl | (simp [wd_w_row, row_self, row_row]; done) | (simp_all [wd_w_row, row_self, row_row]; done)⟩
theorem ct_X0_isLong_14_0 {ad : Nat → Nat → Nat → Nat} {o : wd_S}  : CT ad MX0_isLong [.int 14, .int 0] o (RT (some (.int 1)) o) := by
  refine CT.of (L := [some (.int 14), some (.int 0), none]) rfl rfl (by decide) (Nat.le_of_ble_eq_true rfl) rfl ?_
  refine aw_iload_n (x := 14) rfl dX0_isLong_0 ?_
  refine aw_rS (v := some (.int 3)) (o2 := o) ct_X0_ringCount_14 (mm_fit_of cbX0_ringCount (by decide) (by decide)) wq303 wq304 rfl rfl (Nat.le_of_ble_eq_true rfl) (by decide) (by decide) rfl dX0_isLong_1 ?_
  refine aw_iconst (v := 1) (by decide) dX0_isLong_4 ?_
  refine aw_isubz (z := 2) (by decide) dX0_isLong_5 ?_
  refine aw_iload_n (x := 0) rfl dX0_isLong_6 ?_
  refine aw_isubz (z := 2) (by decide) dX0_isLong_7 ?_
  refine aw_istore_n (L2 := [some (.int 14), some (.int 0), some (.int 2)]) (by decide) rfl rfl dX0_isLong_8 ?_
  refine aw_iload_n (x := 14) rfl dX0_isLong_9 ?_
  refine aw_iconst (v := 1) (by decide) dX0_isLong_10 ?_
  refine aw_iaddz (z := 15) (by decide) dX0_isLong_11 ?_
  refine aw_iload_n (x := 2) rfl dX0_isLong_12 ?_
  refine aw_ishrz (z := 3) (by decide) dX0_isLong_13 ?_
  refine aw_iconst (v := 1) (by decide) dX0_isLong_14 ?_
  refine aw_iandz (z := 1) (by decide) dX0_isLong_15 ?_
  refine aw_iconst (v := 1) (by decide) dX0_isLong_16 ?_
  refine aw_icmp_ne (tgt := 24) (by decide) dX0_isLong_17 (fun z => absurd z (by decide)) (fun _ => ?_)
  refine aw_iconst (v := 1) (by decide) dX0_isLong_20 ?_
  refine aw_goto (tgt := 25) (by decide) dX0_isLong_21 ?_
  exact aw_zret rfl (by decide) (by decide) (by decide) dX0_isLong_25 ⟨by first | rfl | (simp [wd_w_row, row_self, row_row]; done) | (simp_all [wd_w_row, row_self, row_row]; done), by first | rfl | (simp [wd_w_row, row_self, row_row]; done) | (simp_all [wd_w_row, row_self, row_row]; done)⟩
theorem ct_X0_isLong_14_1 {ad : Nat → Nat → Nat → Nat} {o : wd_S}  : CT ad MX0_isLong [.int 14, .int 1] o (RT (some (.int 1)) o) := by
  refine CT.of (L := [some (.int 14), some (.int 1), none]) rfl rfl (by decide) (Nat.le_of_ble_eq_true rfl) rfl ?_
  refine aw_iload_n (x := 14) rfl dX0_isLong_0 ?_
  refine aw_rS (v := some (.int 3)) (o2 := o) ct_X0_ringCount_14 (mm_fit_of cbX0_ringCount (by decide) (by decide)) wq303 wq304 rfl rfl (Nat.le_of_ble_eq_true rfl) (by decide) (by decide) rfl dX0_isLong_1 ?_
  refine aw_iconst (v := 1) (by decide) dX0_isLong_4 ?_
  refine aw_isubz (z := 2) (by decide) dX0_isLong_5 ?_
  refine aw_iload_n (x := 1) rfl dX0_isLong_6 ?_
  refine aw_isubz (z := 1) (by decide) dX0_isLong_7 ?_
  refine aw_istore_n (L2 := [some (.int 14), some (.int 1), some (.int 1)]) (by decide) rfl rfl dX0_isLong_8 ?_
  refine aw_iload_n (x := 14) rfl dX0_isLong_9 ?_
  refine aw_iconst (v := 1) (by decide) dX0_isLong_10 ?_
  refine aw_iaddz (z := 15) (by decide) dX0_isLong_11 ?_
  refine aw_iload_n (x := 1) rfl dX0_isLong_12 ?_
  refine aw_ishrz (z := 7) (by decide) dX0_isLong_13 ?_
  refine aw_iconst (v := 1) (by decide) dX0_isLong_14 ?_
  refine aw_iandz (z := 1) (by decide) dX0_isLong_15 ?_
  refine aw_iconst (v := 1) (by decide) dX0_isLong_16 ?_
  refine aw_icmp_ne (tgt := 24) (by decide) dX0_isLong_17 (fun z => absurd z (by decide)) (fun _ => ?_)
  refine aw_iconst (v := 1) (by decide) dX0_isLong_20 ?_
  refine aw_goto (tgt := 25) (by decide) dX0_isLong_21 ?_
  exact aw_zret rfl (by decide) (by decide) (by decide) dX0_isLong_25 ⟨by first | rfl | (simp [wd_w_row, row_self, row_row]; done) | (simp_all [wd_w_row, row_self, row_row]; done), by first | rfl | (simp [wd_w_row, row_self, row_row]; done) | (simp_all [wd_w_row, row_self, row_row]; done)⟩
theorem ct_X0_isLong_14_2 {ad : Nat → Nat → Nat → Nat} {o : wd_S}  : CT ad MX0_isLong [.int 14, .int 2] o (RT (some (.int 1)) o) := by
  refine CT.of (L := [some (.int 14), some (.int 2), none]) rfl rfl (by decide) (Nat.le_of_ble_eq_true rfl) rfl ?_
  refine aw_iload_n (x := 14) rfl dX0_isLong_0 ?_
  refine aw_rS (v := some (.int 3)) (o2 := o) ct_X0_ringCount_14 (mm_fit_of cbX0_ringCount (by decide) (by decide)) wq303 wq304 rfl rfl (Nat.le_of_ble_eq_true rfl) (by decide) (by decide) rfl dX0_isLong_1 ?_
  refine aw_iconst (v := 1) (by decide) dX0_isLong_4 ?_
  refine aw_isubz (z := 2) (by decide) dX0_isLong_5 ?_
  refine aw_iload_n (x := 2) rfl dX0_isLong_6 ?_
  refine aw_isubz (z := 0) (by decide) dX0_isLong_7 ?_
  refine aw_istore_n (L2 := [some (.int 14), some (.int 2), some (.int 0)]) (by decide) rfl rfl dX0_isLong_8 ?_
  refine aw_iload_n (x := 14) rfl dX0_isLong_9 ?_
  refine aw_iconst (v := 1) (by decide) dX0_isLong_10 ?_
  refine aw_iaddz (z := 15) (by decide) dX0_isLong_11 ?_
  refine aw_iload_n (x := 0) rfl dX0_isLong_12 ?_
  refine aw_ishrz (z := 15) (by decide) dX0_isLong_13 ?_
  refine aw_iconst (v := 1) (by decide) dX0_isLong_14 ?_
  refine aw_iandz (z := 1) (by decide) dX0_isLong_15 ?_
  refine aw_iconst (v := 1) (by decide) dX0_isLong_16 ?_
  refine aw_icmp_ne (tgt := 24) (by decide) dX0_isLong_17 (fun z => absurd z (by decide)) (fun _ => ?_)
  refine aw_iconst (v := 1) (by decide) dX0_isLong_20 ?_
  refine aw_goto (tgt := 25) (by decide) dX0_isLong_21 ?_
  exact aw_zret rfl (by decide) (by decide) (by decide) dX0_isLong_25 ⟨by first | rfl | (simp [wd_w_row, row_self, row_row]; done) | (simp_all [wd_w_row, row_self, row_row]; done), by first | rfl | (simp [wd_w_row, row_self, row_row]; done) | (simp_all [wd_w_row, row_self, row_row]; done)⟩
theorem ct_X0_lengthOf_14 {ad : Nat → Nat → Nat → Nat} {o : wd_S}  : CT ad MX0_lengthOf [.int 14] o (RT (some (.int 15)) o) := by
  refine CT.of (L := [some (.int 14), none, none, none]) rfl rfl (by decide) (Nat.le_of_ble_eq_true rfl) rfl ?_
  refine aw_iload_n (x := 14) rfl dX0_lengthOf_0 ?_
  refine aw_rS (v := some (.int 3)) (o2 := o) ct_X0_ringCount_14 (mm_fit_of cbX0_ringCount (by decide) (by decide)) wq303 wq304 rfl rfl (Nat.le_of_ble_eq_true rfl) (by decide) (by decide) rfl dX0_lengthOf_1 ?_
  refine aw_istore_n (L2 := [some (.int 14), some (.int 3), none, none]) (by decide) rfl rfl dX0_lengthOf_4 ?_
  refine aw_iload_n (x := 3) rfl dX0_lengthOf_5 ?_
  refine aw_iconst (v := 1) (by decide) dX0_lengthOf_6 ?_
  refine aw_isubz (z := 2) (by decide) dX0_lengthOf_7 ?_
  refine aw_iconst (v := 1) (by decide) dX0_lengthOf_8 ?_
  refine aw_imulz (z := 2) (by decide) dX0_lengthOf_9 ?_
  refine aw_iconst (v := 4) (by decide) dX0_lengthOf_10 ?_
  refine aw_iaddz (z := 6) (by decide) dX0_lengthOf_11 ?_
  refine aw_istore_n (L2 := [some (.int 14), some (.int 3), some (.int 6), none]) (by decide) rfl rfl dX0_lengthOf_12 ?_
  refine aw_iconst (v := 0) (by decide) dX0_lengthOf_13 ?_
  refine aw_istore_n (L2 := [some (.int 14), some (.int 3), some (.int 6), some (.int 0)]) (by decide) rfl rfl dX0_lengthOf_14 ?_
  refine aw_iload_n (x := 0) rfl dX0_lengthOf_15 ?_
  refine aw_iload_n (x := 3) rfl dX0_lengthOf_16 ?_
  refine aw_icmp_ge (tgt := 45) (by decide) dX0_lengthOf_17 (fun z => absurd z (by decide)) (fun _ => ?_)
  refine aw_iload_n (x := 6) rfl dX0_lengthOf_20 ?_
  refine aw_iload_n (x := 14) rfl dX0_lengthOf_21 ?_
  refine aw_iconst (v := 1) (by decide) dX0_lengthOf_22 ?_
  refine aw_iaddz (z := 15) (by decide) dX0_lengthOf_23 ?_
  refine aw_iload_n (x := 0) rfl dX0_lengthOf_24 ?_
  refine aw_ishrz (z := 15) (by decide) dX0_lengthOf_25 ?_
  refine aw_iconst (v := 1) (by decide) dX0_lengthOf_26 ?_
  refine aw_iandz (z := 1) (by decide) dX0_lengthOf_27 ?_
  refine aw_iconst (v := 1) (by decide) dX0_lengthOf_28 ?_
  refine aw_icmp_ne (tgt := 36) (by decide) dX0_lengthOf_29 (fun z => absurd z (by decide)) (fun _ => ?_)
  refine aw_iconst (v := 3) (by decide) dX0_lengthOf_32 ?_
  refine aw_goto (tgt := 37) (by decide) dX0_lengthOf_33 ?_
  refine aw_iaddz (z := 9) (by decide) dX0_lengthOf_37 ?_
  refine aw_istore_n (L2 := [some (.int 14), some (.int 3), some (.int 9), some (.int 0)]) (by decide) rfl rfl dX0_lengthOf_38 ?_
  refine aw_iinc (x := 0) (v := 1) (L2 := [some (.int 14), some (.int 3), some (.int 9), some (.int 1)]) rfl (by decide) (by decide) rfl rfl dX0_lengthOf_39 ?_
  refine aw_goto (tgt := 15) (by decide) dX0_lengthOf_42 ?_
  refine aw_iload_n (x := 1) rfl dX0_lengthOf_15 ?_
  refine aw_iload_n (x := 3) rfl dX0_lengthOf_16 ?_
  refine aw_icmp_ge (tgt := 45) (by decide) dX0_lengthOf_17 (fun z => absurd z (by decide)) (fun _ => ?_)
  refine aw_iload_n (x := 9) rfl dX0_lengthOf_20 ?_
  refine aw_iload_n (x := 14) rfl dX0_lengthOf_21 ?_
  refine aw_iconst (v := 1) (by decide) dX0_lengthOf_22 ?_
  refine aw_iaddz (z := 15) (by decide) dX0_lengthOf_23 ?_
  refine aw_iload_n (x := 1) rfl dX0_lengthOf_24 ?_
  refine aw_ishrz (z := 7) (by decide) dX0_lengthOf_25 ?_
  refine aw_iconst (v := 1) (by decide) dX0_lengthOf_26 ?_
  refine aw_iandz (z := 1) (by decide) dX0_lengthOf_27 ?_
  refine aw_iconst (v := 1) (by decide) dX0_lengthOf_28 ?_
  refine aw_icmp_ne (tgt := 36) (by decide) dX0_lengthOf_29 (fun z => absurd z (by decide)) (fun _ => ?_)
  refine aw_iconst (v := 3) (by decide) dX0_lengthOf_32 ?_
  refine aw_goto (tgt := 37) (by decide) dX0_lengthOf_33 ?_
  refine aw_iaddz (z := 12) (by decide) dX0_lengthOf_37 ?_
  refine aw_istore_n (L2 := [some (.int 14), some (.int 3), some (.int 12), some (.int 1)]) (by decide) rfl rfl dX0_lengthOf_38 ?_
  refine aw_iinc (x := 1) (v := 2) (L2 := [some (.int 14), some (.int 3), some (.int 12), some (.int 2)]) rfl (by decide) (by decide) rfl rfl dX0_lengthOf_39 ?_
  refine aw_goto (tgt := 15) (by decide) dX0_lengthOf_42 ?_
  refine aw_iload_n (x := 2) rfl dX0_lengthOf_15 ?_
  refine aw_iload_n (x := 3) rfl dX0_lengthOf_16 ?_
  refine aw_icmp_ge (tgt := 45) (by decide) dX0_lengthOf_17 (fun z => absurd z (by decide)) (fun _ => ?_)
  refine aw_iload_n (x := 12) rfl dX0_lengthOf_20 ?_
  refine aw_iload_n (x := 14) rfl dX0_lengthOf_21 ?_
  refine aw_iconst (v := 1) (by decide) dX0_lengthOf_22 ?_
  refine aw_iaddz (z := 15) (by decide) dX0_lengthOf_23 ?_
  refine aw_iload_n (x := 2) rfl dX0_lengthOf_24 ?_
  refine aw_ishrz (z := 3) (by decide) dX0_lengthOf_25 ?_
  refine aw_iconst (v := 1) (by decide) dX0_lengthOf_26 ?_
  refine aw_iandz (z := 1) (by decide) dX0_lengthOf_27 ?_
  refine aw_iconst (v := 1) (by decide) dX0_lengthOf_28 ?_
  refine aw_icmp_ne (tgt := 36) (by decide) dX0_lengthOf_29 (fun z => absurd z (by decide)) (fun _ => ?_)
  refine aw_iconst (v := 3) (by decide) dX0_lengthOf_32 ?_
  refine aw_goto (tgt := 37) (by decide) dX0_lengthOf_33 ?_
  refine aw_iaddz (z := 15) (by decide) dX0_lengthOf_37 ?_
  refine aw_istore_n (L2 := [some (.int 14), some (.int 3), some (.int 15), some (.int 2)]) (by decide) rfl rfl dX0_lengthOf_38 ?_
  refine aw_iinc (x := 2) (v := 3) (L2 := [some (.int 14), some (.int 3), some (.int 15), some (.int 3)]) rfl (by decide) (by decide) rfl rfl dX0_lengthOf_39 ?_
  refine aw_goto (tgt := 15) (by decide) dX0_lengthOf_42 ?_
  refine aw_iload_n (x := 3) rfl dX0_lengthOf_15 ?_
  refine aw_iload_n (x := 3) rfl dX0_lengthOf_16 ?_
  refine aw_icmp_ge (tgt := 45) (by decide) dX0_lengthOf_17 (fun _ => ?_) (fun z => absurd z (by decide))
  refine aw_iload_n (x := 15) rfl dX0_lengthOf_45 ?_
  exact aw_iret rfl (by decide) (by decide) dX0_lengthOf_46 ⟨by first | rfl | (simp [wd_w_row, row_self, row_row]; done) | (simp_all [wd_w_row, row_self, row_row]; done), by first | rfl | (simp [wd_w_row, row_self, row_row]; done) | (simp_all [wd_w_row, row_self, row_row]; done)⟩
theorem ct_X0_soundAt_14 {ad : Nat → Nat → Nat → Nat} {o : wd_S} {t : Int32} : CT ad MX0_soundAt [.int 14, .int t] o (RT (some (.int (tc_s14 t))) o) := by
  refine CT.of (L := [some (.int 14), some (.int t), none, none, none, none, none]) rfl rfl (by decide) (Nat.le_of_ble_eq_true rfl) rfl ?_
  refine aw_iload_n (x := 14) rfl dX0_soundAt_0 ?_
  refine aw_rS (v := some (.int 3)) (o2 := o) ct_X0_ringCount_14 (mm_fit_of cbX0_ringCount (by decide) (by decide)) wq303 wq304 rfl rfl (Nat.le_of_ble_eq_true rfl) (by decide) (by decide) rfl dX0_soundAt_1 ?_
  refine aw_istore_n (L2 := [some (.int 14), some (.int t), some (.int 3), none, none, none, none]) (by decide) rfl rfl dX0_soundAt_4 ?_
  refine aw_iconst (v := 0) (by decide) dX0_soundAt_5 ?_
  refine aw_istore_n (L2 := [some (.int 14), some (.int t), some (.int 3), some (.int 0), none, none, none]) (by decide) rfl rfl dX0_soundAt_6 ?_
  refine aw_iconst (v := 0) (by decide) dX0_soundAt_7 ?_
  refine aw_istore (L2 := [some (.int 14), some (.int t), some (.int 3), some (.int 0), some (.int 0), none, none]) (by decide) rfl rfl dX0_soundAt_8 ?_
  refine aw_iload (x := 0) rfl dX0_soundAt_10 ?_
  refine aw_iload_n (x := 3) rfl dX0_soundAt_12 ?_
  refine aw_icmp_ge (tgt := 71) (by decide) dX0_soundAt_13 (fun z => absurd z (by decide)) (fun _ => ?_)
  refine aw_iload_n (x := 14) rfl dX0_soundAt_16 ?_
  refine aw_iload (x := 0) rfl dX0_soundAt_17 ?_
  refine aw_rS (v := some (.int 1)) (o2 := o) ct_X0_isLong_14_0 (mm_fit_of cbX0_isLong (by decide) (by decide)) wq309 wq310 rfl rfl (Nat.le_of_ble_eq_true rfl) (by decide) (by decide) rfl dX0_soundAt_19 ?_
  refine aw_istore (L2 := [some (.int 14), some (.int t), some (.int 3), some (.int 0), some (.int 0), some (.int 1), none]) (by decide) rfl rfl dX0_soundAt_22 ?_
  refine aw_iload_n (x := 0) rfl dX0_soundAt_24 ?_
  refine aw_iload (x := 1) rfl dX0_soundAt_25 ?_
  refine aw_if_eq (tgt := 34) (by decide) dX0_soundAt_27 (fun z => absurd z (by decide)) (fun _ => ?_)
  refine aw_iconst (v := 3) (by decide) dX0_soundAt_30 ?_
  refine aw_goto (tgt := 35) (by decide) dX0_soundAt_31 ?_
  refine aw_iaddz (z := 3) (by decide) dX0_soundAt_35 ?_
  refine aw_istore (L2 := [some (.int 14), some (.int t), some (.int 3), some (.int 0), some (.int 0), some (.int 1), some (.int 3)]) (by decide) rfl rfl dX0_soundAt_36 ?_
  refine aw_iload_n (x := t) rfl dX0_soundAt_38 ?_
  refine aw_iload_n (x := 0) rfl dX0_soundAt_39 ?_
  refine aw_icmp_lt (tgt := 60) (by decide) dX0_soundAt_40 (fun b1 => ?_) (fun b1 => ?_)
  · skip
    refine aw_iload (x := 3) rfl dX0_soundAt_60 ?_
    refine aw_iconst (v := 1) (by decide) dX0_soundAt_62 ?_
    refine aw_iaddz (z := 4) (by decide) dX0_soundAt_63 ?_
    refine aw_istore_n (L2 := [some (.int 14), some (.int t), some (.int 3), some (.int 4), some (.int 0), some (.int 1), some (.int 3)]) (by decide) rfl rfl dX0_soundAt_64 ?_
    refine aw_iinc (x := 0) (v := 1) (L2 := [some (.int 14), some (.int t), some (.int 3), some (.int 4), some (.int 1), some (.int 1), some (.int 3)]) rfl (by decide) (by decide) rfl rfl dX0_soundAt_65 ?_
    refine aw_goto (tgt := 10) (by decide) dX0_soundAt_68 ?_
    refine aw_iload (x := 1) rfl dX0_soundAt_10 ?_
    refine aw_iload_n (x := 3) rfl dX0_soundAt_12 ?_
    refine aw_icmp_ge (tgt := 71) (by decide) dX0_soundAt_13 (fun z => absurd z (by decide)) (fun _ => ?_)
    refine aw_iload_n (x := 14) rfl dX0_soundAt_16 ?_
    refine aw_iload (x := 1) rfl dX0_soundAt_17 ?_
    refine aw_rS (v := some (.int 1)) (o2 := o) ct_X0_isLong_14_1 (mm_fit_of cbX0_isLong (by decide) (by decide)) wq309 wq310 rfl rfl (Nat.le_of_ble_eq_true rfl) (by decide) (by decide) rfl dX0_soundAt_19 ?_
    refine aw_istore (L2 := [some (.int 14), some (.int t), some (.int 3), some (.int 4), some (.int 1), some (.int 1), some (.int 3)]) (by decide) rfl rfl dX0_soundAt_22 ?_
    refine aw_iload_n (x := 4) rfl dX0_soundAt_24 ?_
    refine aw_iload (x := 1) rfl dX0_soundAt_25 ?_
    refine aw_if_eq (tgt := 34) (by decide) dX0_soundAt_27 (fun z => absurd z (by decide)) (fun _ => ?_)
    refine aw_iconst (v := 3) (by decide) dX0_soundAt_30 ?_
    refine aw_goto (tgt := 35) (by decide) dX0_soundAt_31 ?_
    refine aw_iaddz (z := 7) (by decide) dX0_soundAt_35 ?_
    refine aw_istore (L2 := [some (.int 14), some (.int t), some (.int 3), some (.int 4), some (.int 1), some (.int 1), some (.int 7)]) (by decide) rfl rfl dX0_soundAt_36 ?_
    refine aw_iload_n (x := t) rfl dX0_soundAt_38 ?_
    refine aw_iload_n (x := 4) rfl dX0_soundAt_39 ?_
    refine aw_icmp_lt (tgt := 60) (by decide) dX0_soundAt_40 (fun b2 => ?_) (fun b2 => ?_)
    · skip
      refine aw_iload (x := 7) rfl dX0_soundAt_60 ?_
      refine aw_iconst (v := 1) (by decide) dX0_soundAt_62 ?_
      refine aw_iaddz (z := 8) (by decide) dX0_soundAt_63 ?_
      refine aw_istore_n (L2 := [some (.int 14), some (.int t), some (.int 3), some (.int 8), some (.int 1), some (.int 1), some (.int 7)]) (by decide) rfl rfl dX0_soundAt_64 ?_
      refine aw_iinc (x := 1) (v := 2) (L2 := [some (.int 14), some (.int t), some (.int 3), some (.int 8), some (.int 2), some (.int 1), some (.int 7)]) rfl (by decide) (by decide) rfl rfl dX0_soundAt_65 ?_
      refine aw_goto (tgt := 10) (by decide) dX0_soundAt_68 ?_
      refine aw_iload (x := 2) rfl dX0_soundAt_10 ?_
      refine aw_iload_n (x := 3) rfl dX0_soundAt_12 ?_
      refine aw_icmp_ge (tgt := 71) (by decide) dX0_soundAt_13 (fun z => absurd z (by decide)) (fun _ => ?_)
      refine aw_iload_n (x := 14) rfl dX0_soundAt_16 ?_
      refine aw_iload (x := 2) rfl dX0_soundAt_17 ?_
      refine aw_rS (v := some (.int 1)) (o2 := o) ct_X0_isLong_14_2 (mm_fit_of cbX0_isLong (by decide) (by decide)) wq309 wq310 rfl rfl (Nat.le_of_ble_eq_true rfl) (by decide) (by decide) rfl dX0_soundAt_19 ?_
      refine aw_istore (L2 := [some (.int 14), some (.int t), some (.int 3), some (.int 8), some (.int 2), some (.int 1), some (.int 7)]) (by decide) rfl rfl dX0_soundAt_22 ?_
      refine aw_iload_n (x := 8) rfl dX0_soundAt_24 ?_
      refine aw_iload (x := 1) rfl dX0_soundAt_25 ?_
      refine aw_if_eq (tgt := 34) (by decide) dX0_soundAt_27 (fun z => absurd z (by decide)) (fun _ => ?_)
      refine aw_iconst (v := 3) (by decide) dX0_soundAt_30 ?_
      refine aw_goto (tgt := 35) (by decide) dX0_soundAt_31 ?_
      refine aw_iaddz (z := 11) (by decide) dX0_soundAt_35 ?_
      refine aw_istore (L2 := [some (.int 14), some (.int t), some (.int 3), some (.int 8), some (.int 2), some (.int 1), some (.int 11)]) (by decide) rfl rfl dX0_soundAt_36 ?_
      refine aw_iload_n (x := t) rfl dX0_soundAt_38 ?_
      refine aw_iload_n (x := 8) rfl dX0_soundAt_39 ?_
      refine aw_icmp_lt (tgt := 60) (by decide) dX0_soundAt_40 (fun b3 => ?_) (fun b3 => ?_)
      · skip
        refine aw_iload (x := 11) rfl dX0_soundAt_60 ?_
        refine aw_iconst (v := 1) (by decide) dX0_soundAt_62 ?_
        refine aw_iaddz (z := 12) (by decide) dX0_soundAt_63 ?_
        refine aw_istore_n (L2 := [some (.int 14), some (.int t), some (.int 3), some (.int 12), some (.int 2), some (.int 1), some (.int 11)]) (by decide) rfl rfl dX0_soundAt_64 ?_
        refine aw_iinc (x := 2) (v := 3) (L2 := [some (.int 14), some (.int t), some (.int 3), some (.int 12), some (.int 3), some (.int 1), some (.int 11)]) rfl (by decide) (by decide) rfl rfl dX0_soundAt_65 ?_
        refine aw_goto (tgt := 10) (by decide) dX0_soundAt_68 ?_
        refine aw_iload (x := 3) rfl dX0_soundAt_10 ?_
        refine aw_iload_n (x := 3) rfl dX0_soundAt_12 ?_
        refine aw_icmp_ge (tgt := 71) (by decide) dX0_soundAt_13 (fun _ => ?_) (fun z => absurd z (by decide))
        refine aw_iconst (v := 0) (by decide) dX0_soundAt_71 ?_
        exact aw_iret rfl (by decide) (by decide) dX0_soundAt_72 ⟨by first | rfl | (simp [tc_s14, wd_w_row, row_self, row_row, b1, b2, b3]; done) | (simp_all [tc_s14, wd_w_row, row_self, row_row, b1, b2, b3]; done), by first | rfl | (simp [tc_s14, wd_w_row, row_self, row_row, b1, b2, b3]; done) | (simp_all [tc_s14, wd_w_row, row_self, row_row, b1, b2, b3]; done)⟩
      · skip
        refine aw_iload_n (x := t) rfl dX0_soundAt_43 ?_
        refine aw_iload (x := 11) rfl dX0_soundAt_44 ?_
        refine aw_icmp_ge (tgt := 60) (by decide) dX0_soundAt_46 (fun b4 => ?_) (fun b4 => ?_)
        · skip
          refine aw_iload (x := 11) rfl dX0_soundAt_60 ?_
          refine aw_iconst (v := 1) (by decide) dX0_soundAt_62 ?_
          refine aw_iaddz (z := 12) (by decide) dX0_soundAt_63 ?_
          refine aw_istore_n (L2 := [some (.int 14), some (.int t), some (.int 3), some (.int 12), some (.int 2), some (.int 1), some (.int 11)]) (by decide) rfl rfl dX0_soundAt_64 ?_
          refine aw_iinc (x := 2) (v := 3) (L2 := [some (.int 14), some (.int t), some (.int 3), some (.int 12), some (.int 3), some (.int 1), some (.int 11)]) rfl (by decide) (by decide) rfl rfl dX0_soundAt_65 ?_
          refine aw_goto (tgt := 10) (by decide) dX0_soundAt_68 ?_
          refine aw_iload (x := 3) rfl dX0_soundAt_10 ?_
          refine aw_iload_n (x := 3) rfl dX0_soundAt_12 ?_
          refine aw_icmp_ge (tgt := 71) (by decide) dX0_soundAt_13 (fun _ => ?_) (fun z => absurd z (by decide))
          refine aw_iconst (v := 0) (by decide) dX0_soundAt_71 ?_
          exact aw_iret rfl (by decide) (by decide) dX0_soundAt_72 ⟨by first | rfl | (simp [tc_s14, wd_w_row, row_self, row_row, b1, b2, b3, b4]; done) | (simp_all [tc_s14, wd_w_row, row_self, row_row, b1, b2, b3, b4]; done), by first | rfl | (simp [tc_s14, wd_w_row, row_self, row_row, b1, b2, b3, b4]; done) | (simp_all [tc_s14, wd_w_row, row_self, row_row, b1, b2, b3, b4]; done)⟩
        · skip
          refine aw_iload (x := 1) rfl dX0_soundAt_49 ?_
          refine aw_if_eq (tgt := 58) (by decide) dX0_soundAt_51 (fun z => absurd z (by decide)) (fun _ => ?_)
          refine aw_iconst (v := 2) (by decide) dX0_soundAt_54 ?_
          refine aw_goto (tgt := 59) (by decide) dX0_soundAt_55 ?_
          exact aw_iret rfl (by decide) (by decide) dX0_soundAt_59 ⟨by first | rfl | (simp [tc_s14, wd_w_row, row_self, row_row, b1, b2, b3, b4]; done) | (simp_all [tc_s14, wd_w_row, row_self, row_row, b1, b2, b3, b4]; done), by first | rfl | (simp [tc_s14, wd_w_row, row_self, row_row, b1, b2, b3, b4]; done) | (simp_all [tc_s14, wd_w_row, row_self, row_row, b1, b2, b3, b4]; done)⟩
    · skip
      refine aw_iload_n (x := t) rfl dX0_soundAt_43 ?_
      refine aw_iload (x := 7) rfl dX0_soundAt_44 ?_
      refine aw_icmp_ge (tgt := 60) (by decide) dX0_soundAt_46 (fun b5 => ?_) (fun b5 => ?_)
      · skip
        refine aw_iload (x := 7) rfl dX0_soundAt_60 ?_
        refine aw_iconst (v := 1) (by decide) dX0_soundAt_62 ?_
        refine aw_iaddz (z := 8) (by decide) dX0_soundAt_63 ?_
        refine aw_istore_n (L2 := [some (.int 14), some (.int t), some (.int 3), some (.int 8), some (.int 1), some (.int 1), some (.int 7)]) (by decide) rfl rfl dX0_soundAt_64 ?_
        refine aw_iinc (x := 1) (v := 2) (L2 := [some (.int 14), some (.int t), some (.int 3), some (.int 8), some (.int 2), some (.int 1), some (.int 7)]) rfl (by decide) (by decide) rfl rfl dX0_soundAt_65 ?_
        refine aw_goto (tgt := 10) (by decide) dX0_soundAt_68 ?_
        refine aw_iload (x := 2) rfl dX0_soundAt_10 ?_
        refine aw_iload_n (x := 3) rfl dX0_soundAt_12 ?_
        refine aw_icmp_ge (tgt := 71) (by decide) dX0_soundAt_13 (fun z => absurd z (by decide)) (fun _ => ?_)
        refine aw_iload_n (x := 14) rfl dX0_soundAt_16 ?_
        refine aw_iload (x := 2) rfl dX0_soundAt_17 ?_
        refine aw_rS (v := some (.int 1)) (o2 := o) ct_X0_isLong_14_2 (mm_fit_of cbX0_isLong (by decide) (by decide)) wq309 wq310 rfl rfl (Nat.le_of_ble_eq_true rfl) (by decide) (by decide) rfl dX0_soundAt_19 ?_
        refine aw_istore (L2 := [some (.int 14), some (.int t), some (.int 3), some (.int 8), some (.int 2), some (.int 1), some (.int 7)]) (by decide) rfl rfl dX0_soundAt_22 ?_
        refine aw_iload_n (x := 8) rfl dX0_soundAt_24 ?_
        refine aw_iload (x := 1) rfl dX0_soundAt_25 ?_
        refine aw_if_eq (tgt := 34) (by decide) dX0_soundAt_27 (fun z => absurd z (by decide)) (fun _ => ?_)
        refine aw_iconst (v := 3) (by decide) dX0_soundAt_30 ?_
        refine aw_goto (tgt := 35) (by decide) dX0_soundAt_31 ?_
        refine aw_iaddz (z := 11) (by decide) dX0_soundAt_35 ?_
        refine aw_istore (L2 := [some (.int 14), some (.int t), some (.int 3), some (.int 8), some (.int 2), some (.int 1), some (.int 11)]) (by decide) rfl rfl dX0_soundAt_36 ?_
        refine aw_iload_n (x := t) rfl dX0_soundAt_38 ?_
        refine aw_iload_n (x := 8) rfl dX0_soundAt_39 ?_
        refine aw_icmp_lt (tgt := 60) (by decide) dX0_soundAt_40 (fun b6 => ?_) (fun b6 => ?_)
        · skip
          refine aw_iload (x := 11) rfl dX0_soundAt_60 ?_
          refine aw_iconst (v := 1) (by decide) dX0_soundAt_62 ?_
          refine aw_iaddz (z := 12) (by decide) dX0_soundAt_63 ?_
          refine aw_istore_n (L2 := [some (.int 14), some (.int t), some (.int 3), some (.int 12), some (.int 2), some (.int 1), some (.int 11)]) (by decide) rfl rfl dX0_soundAt_64 ?_
          refine aw_iinc (x := 2) (v := 3) (L2 := [some (.int 14), some (.int t), some (.int 3), some (.int 12), some (.int 3), some (.int 1), some (.int 11)]) rfl (by decide) (by decide) rfl rfl dX0_soundAt_65 ?_
          refine aw_goto (tgt := 10) (by decide) dX0_soundAt_68 ?_
          refine aw_iload (x := 3) rfl dX0_soundAt_10 ?_
          refine aw_iload_n (x := 3) rfl dX0_soundAt_12 ?_
          refine aw_icmp_ge (tgt := 71) (by decide) dX0_soundAt_13 (fun _ => ?_) (fun z => absurd z (by decide))
          refine aw_iconst (v := 0) (by decide) dX0_soundAt_71 ?_
          exact aw_iret rfl (by decide) (by decide) dX0_soundAt_72 ⟨by first | rfl | (simp [tc_s14, wd_w_row, row_self, row_row, b1, b2, b5, b6]; done) | (simp_all [tc_s14, wd_w_row, row_self, row_row, b1, b2, b5, b6]; done), by first | rfl | (simp [tc_s14, wd_w_row, row_self, row_row, b1, b2, b5, b6]; done) | (simp_all [tc_s14, wd_w_row, row_self, row_row, b1, b2, b5, b6]; done)⟩
        · skip
          refine aw_iload_n (x := t) rfl dX0_soundAt_43 ?_
          refine aw_iload (x := 11) rfl dX0_soundAt_44 ?_
          refine aw_icmp_ge (tgt := 60) (by decide) dX0_soundAt_46 (fun b7 => ?_) (fun b7 => ?_)
          · skip
            refine aw_iload (x := 11) rfl dX0_soundAt_60 ?_
            refine aw_iconst (v := 1) (by decide) dX0_soundAt_62 ?_
            refine aw_iaddz (z := 12) (by decide) dX0_soundAt_63 ?_
            refine aw_istore_n (L2 := [some (.int 14), some (.int t), some (.int 3), some (.int 12), some (.int 2), some (.int 1), some (.int 11)]) (by decide) rfl rfl dX0_soundAt_64 ?_
            refine aw_iinc (x := 2) (v := 3) (L2 := [some (.int 14), some (.int t), some (.int 3), some (.int 12), some (.int 3), some (.int 1), some (.int 11)]) rfl (by decide) (by decide) rfl rfl dX0_soundAt_65 ?_
            refine aw_goto (tgt := 10) (by decide) dX0_soundAt_68 ?_
            refine aw_iload (x := 3) rfl dX0_soundAt_10 ?_
            refine aw_iload_n (x := 3) rfl dX0_soundAt_12 ?_
            refine aw_icmp_ge (tgt := 71) (by decide) dX0_soundAt_13 (fun _ => ?_) (fun z => absurd z (by decide))
            refine aw_iconst (v := 0) (by decide) dX0_soundAt_71 ?_
            exact aw_iret rfl (by decide) (by decide) dX0_soundAt_72 ⟨by first | rfl | (simp [tc_s14, wd_w_row, row_self, row_row, b1, b2, b5, b6, b7]; done) | (simp_all [tc_s14, wd_w_row, row_self, row_row, b1, b2, b5, b6, b7]; done), by first | rfl | (simp [tc_s14, wd_w_row, row_self, row_row, b1, b2, b5, b6, b7]; done) | (simp_all [tc_s14, wd_w_row, row_self, row_row, b1, b2, b5, b6, b7]; done)⟩
          · skip
            refine aw_iload (x := 1) rfl dX0_soundAt_49 ?_
            refine aw_if_eq (tgt := 58) (by decide) dX0_soundAt_51 (fun z => absurd z (by decide)) (fun _ => ?_)
            refine aw_iconst (v := 2) (by decide) dX0_soundAt_54 ?_
            refine aw_goto (tgt := 59) (by decide) dX0_soundAt_55 ?_
            exact aw_iret rfl (by decide) (by decide) dX0_soundAt_59 ⟨by first | rfl | (simp [tc_s14, wd_w_row, row_self, row_row, b1, b2, b5, b6, b7]; done) | (simp_all [tc_s14, wd_w_row, row_self, row_row, b1, b2, b5, b6, b7]; done), by first | rfl | (simp [tc_s14, wd_w_row, row_self, row_row, b1, b2, b5, b6, b7]; done) | (simp_all [tc_s14, wd_w_row, row_self, row_row, b1, b2, b5, b6, b7]; done)⟩
      · skip
        refine aw_iload (x := 1) rfl dX0_soundAt_49 ?_
        refine aw_if_eq (tgt := 58) (by decide) dX0_soundAt_51 (fun z => absurd z (by decide)) (fun _ => ?_)
        refine aw_iconst (v := 2) (by decide) dX0_soundAt_54 ?_
        refine aw_goto (tgt := 59) (by decide) dX0_soundAt_55 ?_
        exact aw_iret rfl (by decide) (by decide) dX0_soundAt_59 ⟨by first | rfl | (simp [tc_s14, wd_w_row, row_self, row_row, b1, b2, b5]; done) | (simp_all [tc_s14, wd_w_row, row_self, row_row, b1, b2, b5]; done), by first | rfl | (simp [tc_s14, wd_w_row, row_self, row_row, b1, b2, b5]; done) | (simp_all [tc_s14, wd_w_row, row_self, row_row, b1, b2, b5]; done)⟩
  · skip
    refine aw_iload_n (x := t) rfl dX0_soundAt_43 ?_
    refine aw_iload (x := 3) rfl dX0_soundAt_44 ?_
    refine aw_icmp_ge (tgt := 60) (by decide) dX0_soundAt_46 (fun b8 => ?_) (fun b8 => ?_)
    · skip
      refine aw_iload (x := 3) rfl dX0_soundAt_60 ?_
      refine aw_iconst (v := 1) (by decide) dX0_soundAt_62 ?_
      refine aw_iaddz (z := 4) (by decide) dX0_soundAt_63 ?_
      refine aw_istore_n (L2 := [some (.int 14), some (.int t), some (.int 3), some (.int 4), some (.int 0), some (.int 1), some (.int 3)]) (by decide) rfl rfl dX0_soundAt_64 ?_
      refine aw_iinc (x := 0) (v := 1) (L2 := [some (.int 14), some (.int t), some (.int 3), some (.int 4), some (.int 1), some (.int 1), some (.int 3)]) rfl (by decide) (by decide) rfl rfl dX0_soundAt_65 ?_
      refine aw_goto (tgt := 10) (by decide) dX0_soundAt_68 ?_
      refine aw_iload (x := 1) rfl dX0_soundAt_10 ?_
      refine aw_iload_n (x := 3) rfl dX0_soundAt_12 ?_
      refine aw_icmp_ge (tgt := 71) (by decide) dX0_soundAt_13 (fun z => absurd z (by decide)) (fun _ => ?_)
      refine aw_iload_n (x := 14) rfl dX0_soundAt_16 ?_
      refine aw_iload (x := 1) rfl dX0_soundAt_17 ?_
      refine aw_rS (v := some (.int 1)) (o2 := o) ct_X0_isLong_14_1 (mm_fit_of cbX0_isLong (by decide) (by decide)) wq309 wq310 rfl rfl (Nat.le_of_ble_eq_true rfl) (by decide) (by decide) rfl dX0_soundAt_19 ?_
      refine aw_istore (L2 := [some (.int 14), some (.int t), some (.int 3), some (.int 4), some (.int 1), some (.int 1), some (.int 3)]) (by decide) rfl rfl dX0_soundAt_22 ?_
      refine aw_iload_n (x := 4) rfl dX0_soundAt_24 ?_
      refine aw_iload (x := 1) rfl dX0_soundAt_25 ?_
      refine aw_if_eq (tgt := 34) (by decide) dX0_soundAt_27 (fun z => absurd z (by decide)) (fun _ => ?_)
      refine aw_iconst (v := 3) (by decide) dX0_soundAt_30 ?_
      refine aw_goto (tgt := 35) (by decide) dX0_soundAt_31 ?_
      refine aw_iaddz (z := 7) (by decide) dX0_soundAt_35 ?_
      refine aw_istore (L2 := [some (.int 14), some (.int t), some (.int 3), some (.int 4), some (.int 1), some (.int 1), some (.int 7)]) (by decide) rfl rfl dX0_soundAt_36 ?_
      refine aw_iload_n (x := t) rfl dX0_soundAt_38 ?_
      refine aw_iload_n (x := 4) rfl dX0_soundAt_39 ?_
      refine aw_icmp_lt (tgt := 60) (by decide) dX0_soundAt_40 (fun b9 => ?_) (fun b9 => ?_)
      · skip
        refine aw_iload (x := 7) rfl dX0_soundAt_60 ?_
        refine aw_iconst (v := 1) (by decide) dX0_soundAt_62 ?_
        refine aw_iaddz (z := 8) (by decide) dX0_soundAt_63 ?_
        refine aw_istore_n (L2 := [some (.int 14), some (.int t), some (.int 3), some (.int 8), some (.int 1), some (.int 1), some (.int 7)]) (by decide) rfl rfl dX0_soundAt_64 ?_
        refine aw_iinc (x := 1) (v := 2) (L2 := [some (.int 14), some (.int t), some (.int 3), some (.int 8), some (.int 2), some (.int 1), some (.int 7)]) rfl (by decide) (by decide) rfl rfl dX0_soundAt_65 ?_
        refine aw_goto (tgt := 10) (by decide) dX0_soundAt_68 ?_
        refine aw_iload (x := 2) rfl dX0_soundAt_10 ?_
        refine aw_iload_n (x := 3) rfl dX0_soundAt_12 ?_
        refine aw_icmp_ge (tgt := 71) (by decide) dX0_soundAt_13 (fun z => absurd z (by decide)) (fun _ => ?_)
        refine aw_iload_n (x := 14) rfl dX0_soundAt_16 ?_
        refine aw_iload (x := 2) rfl dX0_soundAt_17 ?_
        refine aw_rS (v := some (.int 1)) (o2 := o) ct_X0_isLong_14_2 (mm_fit_of cbX0_isLong (by decide) (by decide)) wq309 wq310 rfl rfl (Nat.le_of_ble_eq_true rfl) (by decide) (by decide) rfl dX0_soundAt_19 ?_
        refine aw_istore (L2 := [some (.int 14), some (.int t), some (.int 3), some (.int 8), some (.int 2), some (.int 1), some (.int 7)]) (by decide) rfl rfl dX0_soundAt_22 ?_
        refine aw_iload_n (x := 8) rfl dX0_soundAt_24 ?_
        refine aw_iload (x := 1) rfl dX0_soundAt_25 ?_
        refine aw_if_eq (tgt := 34) (by decide) dX0_soundAt_27 (fun z => absurd z (by decide)) (fun _ => ?_)
        refine aw_iconst (v := 3) (by decide) dX0_soundAt_30 ?_
        refine aw_goto (tgt := 35) (by decide) dX0_soundAt_31 ?_
        refine aw_iaddz (z := 11) (by decide) dX0_soundAt_35 ?_
        refine aw_istore (L2 := [some (.int 14), some (.int t), some (.int 3), some (.int 8), some (.int 2), some (.int 1), some (.int 11)]) (by decide) rfl rfl dX0_soundAt_36 ?_
        refine aw_iload_n (x := t) rfl dX0_soundAt_38 ?_
        refine aw_iload_n (x := 8) rfl dX0_soundAt_39 ?_
        refine aw_icmp_lt (tgt := 60) (by decide) dX0_soundAt_40 (fun b10 => ?_) (fun b10 => ?_)
        · skip
          refine aw_iload (x := 11) rfl dX0_soundAt_60 ?_
          refine aw_iconst (v := 1) (by decide) dX0_soundAt_62 ?_
          refine aw_iaddz (z := 12) (by decide) dX0_soundAt_63 ?_
          refine aw_istore_n (L2 := [some (.int 14), some (.int t), some (.int 3), some (.int 12), some (.int 2), some (.int 1), some (.int 11)]) (by decide) rfl rfl dX0_soundAt_64 ?_
          refine aw_iinc (x := 2) (v := 3) (L2 := [some (.int 14), some (.int t), some (.int 3), some (.int 12), some (.int 3), some (.int 1), some (.int 11)]) rfl (by decide) (by decide) rfl rfl dX0_soundAt_65 ?_
          refine aw_goto (tgt := 10) (by decide) dX0_soundAt_68 ?_
          refine aw_iload (x := 3) rfl dX0_soundAt_10 ?_
          refine aw_iload_n (x := 3) rfl dX0_soundAt_12 ?_
          refine aw_icmp_ge (tgt := 71) (by decide) dX0_soundAt_13 (fun _ => ?_) (fun z => absurd z (by decide))
          refine aw_iconst (v := 0) (by decide) dX0_soundAt_71 ?_
          exact aw_iret rfl (by decide) (by decide) dX0_soundAt_72 ⟨by first | rfl | (simp [tc_s14, wd_w_row, row_self, row_row, b1, b8, b9, b10]; done) | (simp_all [tc_s14, wd_w_row, row_self, row_row, b1, b8, b9, b10]; done), by first | rfl | (simp [tc_s14, wd_w_row, row_self, row_row, b1, b8, b9, b10]; done) | (simp_all [tc_s14, wd_w_row, row_self, row_row, b1, b8, b9, b10]; done)⟩
        · skip
          refine aw_iload_n (x := t) rfl dX0_soundAt_43 ?_
          refine aw_iload (x := 11) rfl dX0_soundAt_44 ?_
          refine aw_icmp_ge (tgt := 60) (by decide) dX0_soundAt_46 (fun b11 => ?_) (fun b11 => ?_)
          · skip
            refine aw_iload (x := 11) rfl dX0_soundAt_60 ?_
            refine aw_iconst (v := 1) (by decide) dX0_soundAt_62 ?_
            refine aw_iaddz (z := 12) (by decide) dX0_soundAt_63 ?_
            refine aw_istore_n (L2 := [some (.int 14), some (.int t), some (.int 3), some (.int 12), some (.int 2), some (.int 1), some (.int 11)]) (by decide) rfl rfl dX0_soundAt_64 ?_
            refine aw_iinc (x := 2) (v := 3) (L2 := [some (.int 14), some (.int t), some (.int 3), some (.int 12), some (.int 3), some (.int 1), some (.int 11)]) rfl (by decide) (by decide) rfl rfl dX0_soundAt_65 ?_
            refine aw_goto (tgt := 10) (by decide) dX0_soundAt_68 ?_
            refine aw_iload (x := 3) rfl dX0_soundAt_10 ?_
            refine aw_iload_n (x := 3) rfl dX0_soundAt_12 ?_
            refine aw_icmp_ge (tgt := 71) (by decide) dX0_soundAt_13 (fun _ => ?_) (fun z => absurd z (by decide))
            refine aw_iconst (v := 0) (by decide) dX0_soundAt_71 ?_
            exact aw_iret rfl (by decide) (by decide) dX0_soundAt_72 ⟨by first | rfl | (simp [tc_s14, wd_w_row, row_self, row_row, b1, b8, b9, b10, b11]; done) | (simp_all [tc_s14, wd_w_row, row_self, row_row, b1, b8, b9, b10, b11]; done), by first | rfl | (simp [tc_s14, wd_w_row, row_self, row_row, b1, b8, b9, b10, b11]; done) | (simp_all [tc_s14, wd_w_row, row_self, row_row, b1, b8, b9, b10, b11]; done)⟩
          · skip
            refine aw_iload (x := 1) rfl dX0_soundAt_49 ?_
            refine aw_if_eq (tgt := 58) (by decide) dX0_soundAt_51 (fun z => absurd z (by decide)) (fun _ => ?_)
            refine aw_iconst (v := 2) (by decide) dX0_soundAt_54 ?_
            refine aw_goto (tgt := 59) (by decide) dX0_soundAt_55 ?_
            exact aw_iret rfl (by decide) (by decide) dX0_soundAt_59 ⟨by first | rfl | (simp [tc_s14, wd_w_row, row_self, row_row, b1, b8, b9, b10, b11]; done) | (simp_all [tc_s14, wd_w_row, row_self, row_row, b1, b8, b9, b10, b11]; done), by first | rfl | (simp [tc_s14, wd_w_row, row_self, row_row, b1, b8, b9, b10, b11]; done) | (simp_all [tc_s14, wd_w_row, row_self, row_row, b1, b8, b9, b10, b11]; done)⟩
      · skip
        refine aw_iload_n (x := t) rfl dX0_soundAt_43 ?_
        refine aw_iload (x := 7) rfl dX0_soundAt_44 ?_
        refine aw_icmp_ge (tgt := 60) (by decide) dX0_soundAt_46 (fun b12 => ?_) (fun b12 => ?_)
        · skip
          refine aw_iload (x := 7) rfl dX0_soundAt_60 ?_
          refine aw_iconst (v := 1) (by decide) dX0_soundAt_62 ?_
          refine aw_iaddz (z := 8) (by decide) dX0_soundAt_63 ?_
          refine aw_istore_n (L2 := [some (.int 14), some (.int t), some (.int 3), some (.int 8), some (.int 1), some (.int 1), some (.int 7)]) (by decide) rfl rfl dX0_soundAt_64 ?_
          refine aw_iinc (x := 1) (v := 2) (L2 := [some (.int 14), some (.int t), some (.int 3), some (.int 8), some (.int 2), some (.int 1), some (.int 7)]) rfl (by decide) (by decide) rfl rfl dX0_soundAt_65 ?_
          refine aw_goto (tgt := 10) (by decide) dX0_soundAt_68 ?_
          refine aw_iload (x := 2) rfl dX0_soundAt_10 ?_
          refine aw_iload_n (x := 3) rfl dX0_soundAt_12 ?_
          refine aw_icmp_ge (tgt := 71) (by decide) dX0_soundAt_13 (fun z => absurd z (by decide)) (fun _ => ?_)
          refine aw_iload_n (x := 14) rfl dX0_soundAt_16 ?_
          refine aw_iload (x := 2) rfl dX0_soundAt_17 ?_
          refine aw_rS (v := some (.int 1)) (o2 := o) ct_X0_isLong_14_2 (mm_fit_of cbX0_isLong (by decide) (by decide)) wq309 wq310 rfl rfl (Nat.le_of_ble_eq_true rfl) (by decide) (by decide) rfl dX0_soundAt_19 ?_
          refine aw_istore (L2 := [some (.int 14), some (.int t), some (.int 3), some (.int 8), some (.int 2), some (.int 1), some (.int 7)]) (by decide) rfl rfl dX0_soundAt_22 ?_
          refine aw_iload_n (x := 8) rfl dX0_soundAt_24 ?_
          refine aw_iload (x := 1) rfl dX0_soundAt_25 ?_
          refine aw_if_eq (tgt := 34) (by decide) dX0_soundAt_27 (fun z => absurd z (by decide)) (fun _ => ?_)
          refine aw_iconst (v := 3) (by decide) dX0_soundAt_30 ?_
          refine aw_goto (tgt := 35) (by decide) dX0_soundAt_31 ?_
          refine aw_iaddz (z := 11) (by decide) dX0_soundAt_35 ?_
          refine aw_istore (L2 := [some (.int 14), some (.int t), some (.int 3), some (.int 8), some (.int 2), some (.int 1), some (.int 11)]) (by decide) rfl rfl dX0_soundAt_36 ?_
          refine aw_iload_n (x := t) rfl dX0_soundAt_38 ?_
          refine aw_iload_n (x := 8) rfl dX0_soundAt_39 ?_
          refine aw_icmp_lt (tgt := 60) (by decide) dX0_soundAt_40 (fun b13 => ?_) (fun b13 => ?_)
          · skip
            refine aw_iload (x := 11) rfl dX0_soundAt_60 ?_
            refine aw_iconst (v := 1) (by decide) dX0_soundAt_62 ?_
            refine aw_iaddz (z := 12) (by decide) dX0_soundAt_63 ?_
            refine aw_istore_n (L2 := [some (.int 14), some (.int t), some (.int 3), some (.int 12), some (.int 2), some (.int 1), some (.int 11)]) (by decide) rfl rfl dX0_soundAt_64 ?_
            refine aw_iinc (x := 2) (v := 3) (L2 := [some (.int 14), some (.int t), some (.int 3), some (.int 12), some (.int 3), some (.int 1), some (.int 11)]) rfl (by decide) (by decide) rfl rfl dX0_soundAt_65 ?_
            refine aw_goto (tgt := 10) (by decide) dX0_soundAt_68 ?_
            refine aw_iload (x := 3) rfl dX0_soundAt_10 ?_
            refine aw_iload_n (x := 3) rfl dX0_soundAt_12 ?_
            refine aw_icmp_ge (tgt := 71) (by decide) dX0_soundAt_13 (fun _ => ?_) (fun z => absurd z (by decide))
            refine aw_iconst (v := 0) (by decide) dX0_soundAt_71 ?_
            exact aw_iret rfl (by decide) (by decide) dX0_soundAt_72 ⟨by first | rfl | (simp [tc_s14, wd_w_row, row_self, row_row, b1, b8, b9, b12, b13]; done) | (simp_all [tc_s14, wd_w_row, row_self, row_row, b1, b8, b9, b12, b13]; done), by first | rfl | (simp [tc_s14, wd_w_row, row_self, row_row, b1, b8, b9, b12, b13]; done) | (simp_all [tc_s14, wd_w_row, row_self, row_row, b1, b8, b9, b12, b13]; done)⟩
          · skip
            refine aw_iload_n (x := t) rfl dX0_soundAt_43 ?_
            refine aw_iload (x := 11) rfl dX0_soundAt_44 ?_
            refine aw_icmp_ge (tgt := 60) (by decide) dX0_soundAt_46 (fun b14 => ?_) (fun b14 => ?_)
            · skip
              refine aw_iload (x := 11) rfl dX0_soundAt_60 ?_
              refine aw_iconst (v := 1) (by decide) dX0_soundAt_62 ?_
              refine aw_iaddz (z := 12) (by decide) dX0_soundAt_63 ?_
              refine aw_istore_n (L2 := [some (.int 14), some (.int t), some (.int 3), some (.int 12), some (.int 2), some (.int 1), some (.int 11)]) (by decide) rfl rfl dX0_soundAt_64 ?_
              refine aw_iinc (x := 2) (v := 3) (L2 := [some (.int 14), some (.int t), some (.int 3), some (.int 12), some (.int 3), some (.int 1), some (.int 11)]) rfl (by decide) (by decide) rfl rfl dX0_soundAt_65 ?_
              refine aw_goto (tgt := 10) (by decide) dX0_soundAt_68 ?_
              refine aw_iload (x := 3) rfl dX0_soundAt_10 ?_
              refine aw_iload_n (x := 3) rfl dX0_soundAt_12 ?_
              refine aw_icmp_ge (tgt := 71) (by decide) dX0_soundAt_13 (fun _ => ?_) (fun z => absurd z (by decide))
              refine aw_iconst (v := 0) (by decide) dX0_soundAt_71 ?_
              exact aw_iret rfl (by decide) (by decide) dX0_soundAt_72 ⟨by first | rfl | (simp [tc_s14, wd_w_row, row_self, row_row, b1, b8, b9, b12, b13, b14]; done) | (simp_all [tc_s14, wd_w_row, row_self, row_row, b1, b8, b9, b12, b13, b14]; done), by first | rfl | (simp [tc_s14, wd_w_row, row_self, row_row, b1, b8, b9, b12, b13, b14]; done) | (simp_all [tc_s14, wd_w_row, row_self, row_row, b1, b8, b9, b12, b13, b14]; done)⟩
            · skip
              refine aw_iload (x := 1) rfl dX0_soundAt_49 ?_
              refine aw_if_eq (tgt := 58) (by decide) dX0_soundAt_51 (fun z => absurd z (by decide)) (fun _ => ?_)
              refine aw_iconst (v := 2) (by decide) dX0_soundAt_54 ?_
              refine aw_goto (tgt := 59) (by decide) dX0_soundAt_55 ?_
              exact aw_iret rfl (by decide) (by decide) dX0_soundAt_59 ⟨by first | rfl | (simp [tc_s14, wd_w_row, row_self, row_row, b1, b8, b9, b12, b13, b14]; done) | (simp_all [tc_s14, wd_w_row, row_self, row_row, b1, b8, b9, b12, b13, b14]; done), by first | rfl | (simp [tc_s14, wd_w_row, row_self, row_row, b1, b8, b9, b12, b13, b14]; done) | (simp_all [tc_s14, wd_w_row, row_self, row_row, b1, b8, b9, b12, b13, b14]; done)⟩
        · skip
          refine aw_iload (x := 1) rfl dX0_soundAt_49 ?_
          refine aw_if_eq (tgt := 58) (by decide) dX0_soundAt_51 (fun z => absurd z (by decide)) (fun _ => ?_)
          refine aw_iconst (v := 2) (by decide) dX0_soundAt_54 ?_
          refine aw_goto (tgt := 59) (by decide) dX0_soundAt_55 ?_
          exact aw_iret rfl (by decide) (by decide) dX0_soundAt_59 ⟨by first | rfl | (simp [tc_s14, wd_w_row, row_self, row_row, b1, b8, b9, b12]; done) | (simp_all [tc_s14, wd_w_row, row_self, row_row, b1, b8, b9, b12]; done), by first | rfl | (simp [tc_s14, wd_w_row, row_self, row_row, b1, b8, b9, b12]; done) | (simp_all [tc_s14, wd_w_row, row_self, row_row, b1, b8, b9, b12]; done)⟩
    · skip
      refine aw_iload (x := 1) rfl dX0_soundAt_49 ?_
      refine aw_if_eq (tgt := 58) (by decide) dX0_soundAt_51 (fun z => absurd z (by decide)) (fun _ => ?_)
      refine aw_iconst (v := 2) (by decide) dX0_soundAt_54 ?_
      refine aw_goto (tgt := 59) (by decide) dX0_soundAt_55 ?_
      exact aw_iret rfl (by decide) (by decide) dX0_soundAt_59 ⟨by first | rfl | (simp [tc_s14, wd_w_row, row_self, row_row, b1, b8]; done) | (simp_all [tc_s14, wd_w_row, row_self, row_row, b1, b8]; done), by first | rfl | (simp [tc_s14, wd_w_row, row_self, row_row, b1, b8]; done) | (simp_all [tc_s14, wd_w_row, row_self, row_row, b1, b8]; done)⟩
theorem ct_X0_ringCount {ad : Nat → Nat → Nat → Nat} {o : wd_S} {c : Int32} (h1 : 1 ≤ c) (h2 : c ≤ 14) : CT ad MX0_ringCount [.int c] o (RT (some (.int (tc_n c))) o) := by
  rcases tc_cases h1 h2 with rfl | rfl | rfl | rfl | rfl | rfl | rfl | rfl | rfl | rfl | rfl | rfl | rfl | rfl
  · exact ct_X0_ringCount_1
  · exact ct_X0_ringCount_2
  · exact ct_X0_ringCount_3
  · exact ct_X0_ringCount_4
  · exact ct_X0_ringCount_5
  · exact ct_X0_ringCount_6
  · exact ct_X0_ringCount_7
  · exact ct_X0_ringCount_8
  · exact ct_X0_ringCount_9
  · exact ct_X0_ringCount_10
  · exact ct_X0_ringCount_11
  · exact ct_X0_ringCount_12
  · exact ct_X0_ringCount_13
  · exact ct_X0_ringCount_14
theorem ct_X0_lengthOf {ad : Nat → Nat → Nat → Nat} {o : wd_S} {c : Int32} (h1 : 1 ≤ c) (h2 : c ≤ 14) : CT ad MX0_lengthOf [.int c] o (RT (some (.int (tc_len c))) o) := by
  rcases tc_cases h1 h2 with rfl | rfl | rfl | rfl | rfl | rfl | rfl | rfl | rfl | rfl | rfl | rfl | rfl | rfl
  · exact ct_X0_lengthOf_1
  · exact ct_X0_lengthOf_2
  · exact ct_X0_lengthOf_3
  · exact ct_X0_lengthOf_4
  · exact ct_X0_lengthOf_5
  · exact ct_X0_lengthOf_6
  · exact ct_X0_lengthOf_7
  · exact ct_X0_lengthOf_8
  · exact ct_X0_lengthOf_9
  · exact ct_X0_lengthOf_10
  · exact ct_X0_lengthOf_11
  · exact ct_X0_lengthOf_12
  · exact ct_X0_lengthOf_13
  · exact ct_X0_lengthOf_14
theorem ct_X0_soundAt {ad : Nat → Nat → Nat → Nat} {o : wd_S} {c : Int32} {t : Int32} (h1 : 1 ≤ c) (h2 : c ≤ 14) : CT ad MX0_soundAt [.int c, .int t] o (RT (some (.int (tc_snd c t))) o) := by
  rcases tc_cases h1 h2 with rfl | rfl | rfl | rfl | rfl | rfl | rfl | rfl | rfl | rfl | rfl | rfl | rfl | rfl
  · exact ct_X0_soundAt_1
  · exact ct_X0_soundAt_2
  · exact ct_X0_soundAt_3
  · exact ct_X0_soundAt_4
  · exact ct_X0_soundAt_5
  · exact ct_X0_soundAt_6
  · exact ct_X0_soundAt_7
  · exact ct_X0_soundAt_8
  · exact ct_X0_soundAt_9
  · exact ct_X0_soundAt_10
  · exact ct_X0_soundAt_11
  · exact ct_X0_soundAt_12
  · exact ct_X0_soundAt_13
  · exact ct_X0_soundAt_14
def cs_isCode (c : Int32) : Int32 := if c < 1 then 0 else if c > 14 then 0 else 1
theorem ct_X0_isCode {ad : Nat → Nat → Nat → Nat} {o : wd_S} {c : Int32} : CT ad MX0_isCode [.int c] o (RT (some (.int (cs_isCode c))) o) := by
  refine CT.of (L := [some (.int c)]) rfl rfl (by decide) (Nat.le_of_ble_eq_true rfl) rfl ?_
  refine aw_iload_n (x := c) rfl dX0_isCode_0 ?_
  refine aw_iconst (v := 1) (by decide) dX0_isCode_1 ?_
  refine aw_icmp_lt (tgt := 15) (by decide) dX0_isCode_2 (fun b1 => ?_) (fun b1 => ?_)
  · skip
    refine aw_iconst (v := 0) (by decide) dX0_isCode_15 ?_
    exact aw_zret rfl (by decide) (by decide) (by decide) dX0_isCode_16 ⟨by first | rfl | (simp [cs_isCode, wd_w_row, row_self, row_row, b1]; done) | (simp_all [cs_isCode, wd_w_row, row_self, row_row, b1]; done), by first | rfl | (simp [cs_isCode, wd_w_row, row_self, row_row, b1]; done) | (simp_all [cs_isCode, wd_w_row, row_self, row_row, b1]; done)⟩
  · skip
    refine aw_iload_n (x := c) rfl dX0_isCode_5 ?_
    refine aw_bipush (v := 14) (by decide) dX0_isCode_6 ?_
    refine aw_icmp_gt (tgt := 15) (by decide) dX0_isCode_8 (fun b2 => ?_) (fun b2 => ?_)
    · skip
      refine aw_iconst (v := 0) (by decide) dX0_isCode_15 ?_
      exact aw_zret rfl (by decide) (by decide) (by decide) dX0_isCode_16 ⟨by first | rfl | (simp [cs_isCode, wd_w_row, row_self, row_row, b1, b2]; done) | (simp_all [cs_isCode, wd_w_row, row_self, row_row, b1, b2]; done), by first | rfl | (simp [cs_isCode, wd_w_row, row_self, row_row, b1, b2]; done) | (simp_all [cs_isCode, wd_w_row, row_self, row_row, b1, b2]; done)⟩
    · skip
      refine aw_iconst (v := 1) (by decide) dX0_isCode_11 ?_
      refine aw_goto (tgt := 16) (by decide) dX0_isCode_12 ?_
      exact aw_zret rfl (by decide) (by decide) (by decide) dX0_isCode_16 ⟨by first | rfl | (simp [cs_isCode, wd_w_row, row_self, row_row, b1, b2]; done) | (simp_all [cs_isCode, wd_w_row, row_self, row_row, b1, b2]; done), by first | rfl | (simp [cs_isCode, wd_w_row, row_self, row_row, b1, b2]; done) | (simp_all [cs_isCode, wd_w_row, row_self, row_row, b1, b2]; done)⟩
theorem ct_X0_byLength {ad : Nat → Nat → Nat → Nat} {o : wd_S} {r : Nat} (hr : r < 14) : CT ad MX0_byLength [.int (nI r)] o (RT (some (.int (mm_bl r))) o) := by
  refine CT.of (L := [some (.int (nI r))]) rfl rfl (by decide) (Nat.le_of_ble_eq_true rfl) rfl ?_
  refine aw_iload_n (x := nI r) rfl dX0_byLength_0 ?_
  refine aw_if_lt (tgt := 20) (by decide) dX0_byLength_1 (fun b => absurd b (nI_pos (by omega))) (fun _ => ?_)
  refine aw_iload_n (x := nI r) rfl dX0_byLength_4 ?_
  refine aw_blen wq755 dX0_byLength_5 dX0_byLength_8 ?_
  refine aw_icmp_ge (tgt := 20) (by decide) dX0_byLength_9 (fun b => absurd b (nI_ge (b := 14) hr (by decide))) (fun _ => ?_)
  refine aw_bld (i := 0) (x := nI r) (v := mm_bl r) wq755 dX0_byLength_12 dX0_byLength_15 rfl dX0_byLength_16 (nI_in hr (by decide)) (by rw [nI_clamp (by omega)]) ?_
  refine aw_goto (tgt := 22) (by decide) dX0_byLength_17 ?_
  exact aw_iret rfl (by decide) (by decide) dX0_byLength_22 ⟨rfl, rfl⟩
