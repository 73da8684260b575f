/-! the reference: what it saves; ticks -/
def sh (P : Nat → Int32) (i : Nat) : Nat → Int32 := fun x => if i ≤ x ∧ x < 711 then P (x + 237) else P x
theorem sh_nil (P : Nat → Int32) : sh P 711 = P := by
  funext x; unfold sh; rw [if_neg (by omega)]
theorem sh_step (P : Nat → Int32) {i : Nat} (h : i < 711) : sh (upd P i (P (i + 237))) (i + 1) = sh P i := by
  funext x
  unfold sh
  by_cases hx : i + 1 ≤ x ∧ x < 711
  · rw [if_pos hx, if_pos (by omega), upd_ne _ _ (by omega)]
  · rw [if_neg hx]
    by_cases he : x = i
    · subst he; rw [upd_self, if_pos (by omega)]
    · rw [upd_ne _ _ he, if_neg (by omega)]
def sg (P N : Nat → Int32) (b i : Nat) : Nat → Int32 := fun x => if b + i ≤ x ∧ x < b + 237 then N (x - b) else P x
theorem sg_nil (P N : Nat → Int32) (b : Nat) : sg P N b 237 = P := by
  funext x; unfold sg; rw [if_neg (by omega)]
theorem sg_step (P N : Nat → Int32) (b : Nat) {i : Nat} (h : i < 237) : sg (upd P (b + i) (N i)) N b (i + 1) = sg P N b i := by
  funext x
  unfold sg
  by_cases hx : b + (i + 1) ≤ x ∧ x < b + 237
  · rw [if_pos hx, if_pos (by omega)]
  · rw [if_neg hx]
    by_cases he : x = b + i
    · subst he; rw [upd_self, if_pos (by omega), Nat.add_sub_cancel_left]
    · rw [upd_ne _ _ he, if_neg (by omega)]
theorem cp_up (A B : Nat → Int32) {i hi : Nat} (h : i < hi) : cp (upd A i (B i)) B (i + 1) hi = cp A B i hi := by
  funext x
  unfold cp
  by_cases hx : i + 1 ≤ x ∧ x < hi
  · rw [if_pos hx, if_pos (by omega)]
  · rw [if_neg hx]
    by_cases he : x = i
    · subst he; rw [upd_self, if_pos (by omega)]
    · rw [upd_ne _ _ he, if_neg (by omega)]
def ms_save (o : wd_S) (c : Nat) : wd_S := wd_w (wd_row o 9 (sg (o.1 9) (o.1 8) (237 * c) 0)) 12 0 (nI (c + 1))
def ms_drop (o : wd_S) : wd_S := wd_w (wd_row o 9 (sh (o.1 9) 0)) 12 0 3
def ms_sv (o : wd_S) (c : Nat) : wd_S := if c < 4 then ms_save o c else ms_save (ms_drop o) 3
theorem lp_sv1 {ad : Nat → Nat → Nat → Nat} {F : (Option Value ⊕ String) → wd_S → Prop} : ∀ (k i : Nat) (o : wd_S) , i + k = 711 → (AW ad MX8_saves 39 [some (.ref (ad 14 0 0)), none] [] (wd_row o 9 (sh (o.1 9) i)) 0 0 F) → AW ad MX8_saves 10 [some (.ref (ad 14 0 0)), some (.int (nI i))] [] o 0 0 F := by
  intro k
  induction k with
  | zero =>
    intro i o hk K
    have hi : i = 711 := by omega
    subst hi
    refine aw_iload_n (x := (nI 711)) rfl dX8_saves_10 ?_
    refine aw_sipush (v := 711) (by decide) dX8_saves_11 ?_
    refine aw_icmp_ge (tgt := 39) (by decide) dX8_saves_14 (fun _ => ?_) (fun z => absurd (by decide) z)
    exact AW.locs (by simpa only [sh_nil, row_id] using K) (lsub_keep (lsub_none lsub_nil))
  | succ k ih =>
    intro i o hk K
    have hi : i < 711 := by omega
    refine aw_iload_n (x := (nI i)) rfl dX8_saves_10 ?_
    refine aw_sipush (v := 711) (by decide) dX8_saves_11 ?_
    refine aw_icmp_ge (tgt := 39) (by decide) dX8_saves_14 (fun z => absurd z (nI_ge (b := 711) hi (by decide))) (fun _ => ?_)
    refine aw_aload_n (x := ad 14 0 0) rfl dX8_saves_17 ?_
    refine aw_getr (q := (15, 0, 1)) wv14 rfl flX8_13 rfl rfl dX8_saves_18 ?_
    refine aw_iload_n (x := (nI i)) rfl dX8_saves_21 ?_
    refine aw_aload_n (x := ad 14 0 0) rfl dX8_saves_22 ?_
    refine aw_getr (q := (15, 0, 1)) wv14 rfl flX8_13 rfl rfl dX8_saves_23 ?_
    refine aw_iload_n (x := (nI i)) rfl dX8_saves_26 ?_
    refine aw_sipush (v := 237) (by decide) dX8_saves_27 ?_
    refine aw_iaddz (z := nI (i + 237)) (nI_add i 237) dX8_saves_30 ?_
    refine aw_ild (x := i + 237) (q := (9, i + 237)) (y := o.1 9 (i + 237)) rfl (wv15 (by decide)) (wi15 (by show _ < 948; omega)) rfl (by show _ < 948; omega) rfl dX8_saves_31 ?_
    refine aw_ist (x := i) (q := (9, i)) (y := o.1 9 (i + 237)) rfl (wv15 (by decide)) (wi15 (by show _ < 948; omega)) (by show _ < 948; omega) rfl dX8_saves_32 ?_
    refine aw_iinc (n := 1) (x := (nI i)) (v := nI (i + 1)) (L2 := [some (.ref (ad 14 0 0)), some (.int (nI (i + 1)))]) rfl (nI_1 i) (by decide) rfl rfl dX8_saves_33 ?_
    refine aw_goto (tgt := 10) (by decide) dX8_saves_36 ?_
    exact AW.locs (ih (i + 1) (wd_w o 9 i (o.1 9 (i + 237)))  (by omega) (by rw [wd_w_row, row_self, row_row, sh_step _ hi]; exact K)) (lsub_keep (lsub_keep lsub_nil))
theorem lp_sv2 {ad : Nat → Nat → Nat → Nat} {F : (Option Value ⊕ String) → wd_S → Prop} {c : Nat} (hc : c < 4) : ∀ (k i : Nat) (o : wd_S) , i + k = 237 → (o.1 12 0 = nI c) → (AW ad MX8_saves 85 [some (.ref (ad 14 0 0)), none] [] (wd_row o 9 (sg (o.1 9) (o.1 8) (237 * c) i)) 0 0 F) → AW ad MX8_saves 51 [some (.ref (ad 14 0 0)), some (.int (nI i))] [] o 0 0 F := by
  intro k
  induction k with
  | zero =>
    intro i o hk hk K
    have hi : i = 237 := by omega
    subst hi
    refine aw_iload_n (x := (nI 237)) rfl dX8_saves_51 ?_
    refine aw_sipush (v := 237) (by decide) dX8_saves_52 ?_
    refine aw_icmp_ge (tgt := 85) (by decide) dX8_saves_55 (fun _ => ?_) (fun z => absurd (by decide) z)
    exact AW.locs (by simpa only [sg_nil, row_id] using K) (lsub_keep (lsub_none lsub_nil))
  | succ k ih =>
    intro i o hk hk K
    have hi : i < 237 := by omega
    refine aw_iload_n (x := (nI i)) rfl dX8_saves_51 ?_
    refine aw_sipush (v := 237) (by decide) dX8_saves_52 ?_
    refine aw_icmp_ge (tgt := 85) (by decide) dX8_saves_55 (fun z => absurd z (nI_ge (b := 237) hi (by decide))) (fun _ => ?_)
    refine aw_aload_n (x := ad 14 0 0) rfl dX8_saves_58 ?_
    refine aw_getr (q := (15, 0, 1)) wv14 rfl flX8_13 rfl rfl dX8_saves_59 ?_
    refine aw_sipush (v := 237) (by decide) dX8_saves_62 ?_
    refine aw_aload_n (x := ad 14 0 0) rfl dX8_saves_65 ?_
    refine aw_geti (q := (12, 0)) (x := nI c) wv14 rfl hk flX8_29 rfl (Or.inl rfl) dX8_saves_66 ?_
    refine aw_imulz (z := nI (237 * c)) (nI_mul 237 c) dX8_saves_69 ?_
    refine aw_iload_n (x := (nI i)) rfl dX8_saves_70 ?_
    refine aw_iaddz (z := nI (237 * c + i)) (nI_add (237 * c) i) dX8_saves_71 ?_
    refine aw_aload_n (x := ad 14 0 0) rfl dX8_saves_72 ?_
    refine aw_getr (q := (15, 0, 0)) wv14 rfl flX8_7 rfl rfl dX8_saves_73 ?_
    refine aw_iload_n (x := (nI i)) rfl dX8_saves_76 ?_
    refine aw_ild (x := i) (q := (8, i)) (y := o.1 8 i) rfl (wv15 (by decide)) (wi15 (by show _ < 237; omega)) rfl (by show _ < 237; omega) rfl dX8_saves_77 ?_
    refine aw_ist (x := 237 * c + i) (q := (9, 237 * c + i)) (y := o.1 8 i) rfl (wv15 (by decide)) (wi15 (by show _ < 948; omega)) (by show _ < 948; omega) rfl dX8_saves_78 ?_
    refine aw_iinc (n := 1) (x := (nI i)) (v := nI (i + 1)) (L2 := [some (.ref (ad 14 0 0)), some (.int (nI (i + 1)))]) rfl (nI_1 i) (by decide) rfl rfl dX8_saves_79 ?_
    refine aw_goto (tgt := 51) (by decide) dX8_saves_82 ?_
    exact AW.locs (ih (i + 1) (wd_w o 9 (237 * c + i) (o.1 8 i))  (by omega) (by rw [wd_w_row, row_ne _ _ (by decide)]; exact hk) (by rw [wd_w_row, row_self, row_row, row_ne _ _ (by decide), sg_step _ _ _ hi]; exact K)) (lsub_keep (lsub_keep lsub_nil))
theorem ct_X8_saves_lt {ad : Nat → Nat → Nat → Nat} {o : wd_S}  {c : Nat} (hk : o.1 12 0 = nI c) (hc : c < 4) : CT ad MX8_saves [.ref (ad 14 0 0)] o (RT none (ms_save o c)) := by
  refine CT.of (L := [some (.ref (ad 14 0 0)), none]) rfl rfl (by decide) (Nat.le_of_ble_eq_true rfl) rfl ?_
  refine aw_aload_n (x := ad 14 0 0) rfl dX8_saves_0 ?_
  refine aw_geti (q := (12, 0)) (x := nI c) wv14 rfl hk flX8_29 rfl (Or.inl rfl) dX8_saves_1 ?_
  refine aw_iconst (v := 4) (by decide) dX8_saves_4 ?_
  refine aw_icmp_ne (tgt := 49) (by decide) dX8_saves_5 (fun _ => ?_) (fun z => absurd z (fun e => by have h9 : nI c = nI 4 := e; rw [nI_eq (by omega) (by omega)] at h9; omega))
  refine aw_iconst (v := 0) (by decide) dX8_saves_49 ?_
  refine aw_istore_n (L2 := [some (.ref (ad 14 0 0)), some (.int 0)]) (by decide) rfl rfl dX8_saves_50 ?_
  refine lp_sv2 hc 237 0 o (by decide) hk ?_
  refine aw_aload_n (x := ad 14 0 0) rfl dX8_saves_85 ?_
  refine aw_dup rfl dX8_saves_86 ?_
  refine aw_geti (q := (12, 0)) (x := nI c) wv14 rfl (by rw [row_ne _ _ (by decide)]; exact hk) flX8_29 rfl (Or.inl rfl) dX8_saves_87 ?_
  refine aw_iconst (v := 1) (by decide) dX8_saves_90 ?_
  refine aw_iaddz (z := nI (c + 1)) (nI_add c 1) dX8_saves_91 ?_
  refine aw_puti (q := (12, 0)) wv14 rfl fwX8_29 rfl rfl dX8_saves_92 ?_
  exact aw_vret rfl (by decide) (by decide) dX8_saves_95 ⟨rfl, rfl⟩
theorem ct_X8_saves_4 {ad : Nat → Nat → Nat → Nat} {o : wd_S}  (hk : o.1 12 0 = 4) : CT ad MX8_saves [.ref (ad 14 0 0)] o (RT none (ms_save (ms_drop o) 3)) := by
  refine CT.of (L := [some (.ref (ad 14 0 0)), none]) rfl rfl (by decide) (Nat.le_of_ble_eq_true rfl) rfl ?_
  refine aw_aload_n (x := ad 14 0 0) rfl dX8_saves_0 ?_
  refine aw_geti (q := (12, 0)) (x := 4) wv14 rfl hk flX8_29 rfl (Or.inl rfl) dX8_saves_1 ?_
  refine aw_iconst (v := 4) (by decide) dX8_saves_4 ?_
  refine aw_icmp_ne (tgt := 49) (by decide) dX8_saves_5 (fun z => absurd z (by decide)) (fun _ => ?_)
  refine aw_iconst (v := 0) (by decide) dX8_saves_8 ?_
  refine aw_istore_n (L2 := [some (.ref (ad 14 0 0)), some (.int 0)]) (by decide) rfl rfl dX8_saves_9 ?_
  refine lp_sv1 711 0 o (by decide) ?_
  refine aw_aload_n (x := ad 14 0 0) rfl dX8_saves_39 ?_
  refine aw_dup rfl dX8_saves_40 ?_
  refine aw_geti (q := (12, 0)) (x := 4) wv14 rfl (by rw [row_ne _ _ (by decide)]; exact hk) flX8_29 rfl (Or.inl rfl) dX8_saves_41 ?_
  refine aw_iconst (v := 1) (by decide) dX8_saves_44 ?_
  refine aw_isubz (z := 3) (by decide) dX8_saves_45 ?_
  refine aw_puti (q := (12, 0)) wv14 rfl fwX8_29 rfl rfl dX8_saves_46 ?_
  refine aw_iconst (v := 0) (by decide) dX8_saves_49 ?_
  refine aw_istore_n (L2 := [some (.ref (ad 14 0 0)), some (.int 0)]) (by decide) rfl rfl dX8_saves_50 ?_
  show AW ad MX8_saves 51 _ _ (ms_drop o) _ _ _
  refine lp_sv2 (c := 3) (by decide) 237 0 (ms_drop o) (by decide) rfl ?_
  refine aw_aload_n (x := ad 14 0 0) rfl dX8_saves_85 ?_
  refine aw_dup rfl dX8_saves_86 ?_
  refine aw_geti (q := (12, 0)) (x := nI 3) wv14 rfl (by rw [row_ne _ _ (by decide)]; rfl) flX8_29 rfl (Or.inl rfl) dX8_saves_87 ?_
  refine aw_iconst (v := 1) (by decide) dX8_saves_90 ?_
  refine aw_iaddz (z := nI (3 + 1)) (nI_add 3 1) dX8_saves_91 ?_
  refine aw_puti (q := (12, 0)) wv14 rfl fwX8_29 rfl rfl dX8_saves_92 ?_
  exact aw_vret rfl (by decide) (by decide) dX8_saves_95 ⟨rfl, rfl⟩
theorem ct_X8_saves {ad : Nat → Nat → Nat → Nat} {o : wd_S} {c : Nat} (hk : o.1 12 0 = nI c) (hc : c ≤ 4) : CT ad MX8_saves [.ref (ad 14 0 0)] o (RT none (ms_sv o c)) := by
  unfold ms_sv
  by_cases h : c < 4
  · rw [if_pos h]; exact ct_X8_saves_lt hk h
  · rw [if_neg h]
    have : c = 4 := by omega
    subst this
    exact ct_X8_saves_4 hk
theorem msv_ne {o : wd_S} {c r : Nat} (h : r ≠ 9) (h2 : r ≠ 12) : (ms_sv o c).1 r = o.1 r := by
  unfold ms_sv
  split
  · simp only [ms_save, wd_w_row]
    rw [row_ne _ _ h2, row_ne _ _ h]
  · simp only [ms_save, ms_drop, wd_w_row]
    rw [row_ne _ _ h2, row_ne _ _ h, row_ne _ _ h2, row_ne _ _ h]
theorem lp_undo {ad : Nat → Nat → Nat → Nat} {c : Nat} {P : Nat → Int32} (hc : c < 4) : ∀ (k i : Nat) (o : wd_S) , i + k = 237 → (o.1 12 0 = nI c) → (o.1 9 = P) → AW ad MX8_undo 33 [some (.ref (ad 14 0 0)), some (.int (nI i))] [] o 0 0 (RT (some (.int (nI c))) (wd_row o 8 (cp (o.1 8) (fun x => P (237 * c + x)) (i) 237))) := by
  intro k
  induction k with
  | zero =>
    intro i o hk hkk hP
    have hi : i = 237 := by omega
    subst hi
    refine aw_iload_n (x := (nI 237)) rfl dX8_undo_33 ?_
    refine aw_sipush (v := 237) (by decide) dX8_undo_34 ?_
    refine aw_icmp_ge (tgt := 67) (by decide) dX8_undo_37 (fun _ => ?_) (fun z => absurd (by decide) z)
    refine aw_aload_n (x := ad 14 0 0) rfl dX8_undo_67 ?_
    refine aw_geti (q := (12, 0)) (x := nI c) wv14 rfl hkk flX8_29 rfl (Or.inl rfl) dX8_undo_68 ?_
    exact aw_iret rfl (by decide) (by decide) dX8_undo_71 ⟨rfl, by rw [cp_nil, row_id]⟩
  | succ k ih =>
    intro i o hk hkk hP
    have hi : i < 237 := by omega
    refine aw_iload_n (x := (nI i)) rfl dX8_undo_33 ?_
    refine aw_sipush (v := 237) (by decide) dX8_undo_34 ?_
    refine aw_icmp_ge (tgt := 67) (by decide) dX8_undo_37 (fun z => absurd z (nI_ge (b := 237) hi (by decide))) (fun _ => ?_)
    refine aw_aload_n (x := ad 14 0 0) rfl dX8_undo_40 ?_
    refine aw_getr (q := (15, 0, 0)) wv14 rfl flX8_7 rfl rfl dX8_undo_41 ?_
    refine aw_iload_n (x := (nI i)) rfl dX8_undo_44 ?_
    refine aw_aload_n (x := ad 14 0 0) rfl dX8_undo_45 ?_
    refine aw_getr (q := (15, 0, 1)) wv14 rfl flX8_13 rfl rfl dX8_undo_46 ?_
    refine aw_sipush (v := 237) (by decide) dX8_undo_49 ?_
    refine aw_aload_n (x := ad 14 0 0) rfl dX8_undo_52 ?_
    refine aw_geti (q := (12, 0)) (x := nI c) wv14 rfl hkk flX8_29 rfl (Or.inl rfl) dX8_undo_53 ?_
    refine aw_imulz (z := nI (237 * c)) (nI_mul 237 c) dX8_undo_56 ?_
    refine aw_iload_n (x := (nI i)) rfl dX8_undo_57 ?_
    refine aw_iaddz (z := nI (237 * c + i)) (nI_add (237 * c) i) dX8_undo_58 ?_
    refine aw_ild (x := 237 * c + i) (q := (9, 237 * c + i)) (y := o.1 9 (237 * c + i)) rfl (wv15 (by decide)) (wi15 (by show _ < 948; omega)) rfl (by show _ < 948; omega) rfl dX8_undo_59 ?_
    refine aw_ist (x := i) (q := (8, i)) (y := o.1 9 (237 * c + i)) rfl (wv15 (by decide)) (wi15 (by show _ < 237; omega)) (by show _ < 237; omega) rfl dX8_undo_60 ?_
    refine aw_iinc (n := 1) (x := (nI i)) (v := nI (i + 1)) (L2 := [some (.ref (ad 14 0 0)), some (.int (nI (i + 1)))]) rfl (nI_1 i) (by decide) rfl rfl dX8_undo_61 ?_
    refine aw_goto (tgt := 33) (by decide) dX8_undo_64 ?_
    have e9 : (RT (some (.int (nI c))) (wd_row o 8 (cp (o.1 8) (fun x => P (237 * c + x)) (i) 237))) = (RT (some (.int (nI c))) (wd_row (wd_w o 8 i (o.1 9 (237 * c + i))) 8 (cp ((wd_w o 8 i (o.1 9 (237 * c + i))).1 8) (fun x => P (237 * c + x)) (i + 1) 237))) := by rw [wd_w_row, row_self, row_row, hP, cp_up _ (fun x => P (237 * c + x)) hi]
    rw [e9]
    exact AW.locs (ih (i + 1) (wd_w o 8 i (o.1 9 (237 * c + i)))  (by omega) (by rw [wd_w_row, row_ne _ _ (by decide)]; exact hkk) (by rw [wd_w_row, row_ne _ _ (by decide)]; exact hP)) (lsub_keep (lsub_keep lsub_nil))
theorem ct_X8_undo_ok {ad : Nat → Nat → Nat → Nat} {o : wd_S}  {c : Nat} (hk : o.1 12 0 = nI (c + 1)) (hc : c < 4) : CT ad MX8_undo [.ref (ad 14 0 0)] o (RT (some (.int (nI c))) (wd_row (wd_w (wd_w o 12 1 0) 12 0 (nI c)) 8 (cp (o.1 8) (fun x => o.1 9 (237 * c + x)) 0 237))) := by
  refine CT.of (L := [some (.ref (ad 14 0 0)), none]) rfl rfl (by decide) (Nat.le_of_ble_eq_true rfl) rfl ?_
  refine aw_aload_n (x := ad 14 0 0) rfl dX8_undo_0 ?_
  refine aw_aload_n (x := ad 14 0 0) rfl dX8_undo_1 ?_
  refine aw_geti (q := (12, 0)) (x := nI (c + 1)) wv14 rfl hk flX8_29 rfl (Or.inl rfl) dX8_undo_2 ?_
  refine aw_if_ne (tgt := 12) (by decide) dX8_undo_5 (fun _ => ?_) (fun z => absurd z (nI_ne0 (by omega) (by omega)))
  refine aw_iconst (v := 0) (by decide) dX8_undo_12 ?_
  refine aw_rV (As := [.int 0]) (S := []) (v := some (.int 0)) (o2 := (wd_w o 12 1 0)) (ct_refused_0) (mm_fit_of cbX8_refused (by decide) (by decide)) wq922 cvX8_refused wv14 rfl rfl rfl (Nat.le_of_ble_eq_true rfl) (by decide) (by decide) rfl dX8_undo_13 ?_
  refine aw_if_eq (tgt := 21) (by decide) dX8_undo_16 (fun _ => ?_) (fun z => absurd z (by decide))
  refine aw_aload_n (x := ad 14 0 0) rfl dX8_undo_21 ?_
  refine aw_dup rfl dX8_undo_22 ?_
  refine aw_geti (q := (12, 0)) (x := nI (c + 1)) wv14 rfl hk flX8_29 rfl (Or.inl rfl) dX8_undo_23 ?_
  refine aw_iconst (v := 1) (by decide) dX8_undo_26 ?_
  refine aw_isubz (z := nI c) (nI_pred (c)) dX8_undo_27 ?_
  refine aw_puti (q := (12, 0)) wv14 rfl fwX8_29 rfl rfl dX8_undo_28 ?_
  refine aw_iconst (v := 0) (by decide) dX8_undo_31 ?_
  refine aw_istore_n (L2 := [some (.ref (ad 14 0 0)), some (.int 0)]) (by decide) rfl rfl dX8_undo_32 ?_
  exact AW.post (lp_undo hc 237 0 (wd_w (wd_w o 12 1 0) 12 0 (nI c)) (by decide) rfl rfl) (fun r o2 q => q)
theorem ct_X8_undo_x {ad : Nat → Nat → Nat → Nat} {o : wd_S}  (hk : o.1 12 0 = 0) : CT ad MX8_undo [.ref (ad 14 0 0)] o (OT (mR 1 o)) := by
  refine CT.of (L := [some (.ref (ad 14 0 0)), none]) rfl rfl (by decide) (Nat.le_of_ble_eq_true rfl) rfl ?_
  refine aw_aload_n (x := ad 14 0 0) rfl dX8_undo_0 ?_
  refine aw_aload_n (x := ad 14 0 0) rfl dX8_undo_1 ?_
  refine aw_geti (q := (12, 0)) (x := 0) wv14 rfl hk flX8_29 rfl (Or.inl rfl) dX8_undo_2 ?_
  refine aw_if_ne (tgt := 12) (by decide) dX8_undo_5 (fun z => absurd z (by decide)) (fun _ => ?_)
  refine aw_iconst (v := 1) (by decide) dX8_undo_8 ?_
  refine aw_goto (tgt := 13) (by decide) dX8_undo_9 ?_
  refine aw_rV (As := [.int 1]) (S := []) (v := some (.int 1)) (o2 := (wd_w o 12 1 1)) (ct_refused_p (by decide)) (mm_fit_of cbX8_refused (by decide) (by decide)) wq922 cvX8_refused wv14 rfl rfl rfl (Nat.le_of_ble_eq_true rfl) (by decide) (by decide) rfl dX8_undo_13 ?_
  refine aw_if_eq (tgt := 21) (by decide) dX8_undo_16 (fun z => absurd z (by decide)) (fun _ => ?_)
  refine aw_iconst (v := 0) (by decide) dX8_undo_19 ?_
  exact aw_iret rfl (by decide) (by decide) dX8_undo_20 ⟨rfl, rfl⟩
def mf_goes (N : Nat → Int32) (m l f q e : Nat) : Nat → Int32 :=
  if N (20 * l + 1) = 1 then (if N (20 * l + 2) = 12 then mf_comes N l 5 (N (20 * l + 3)) (-1) (-1) else N)
  else if N (20 * l + 1) = 3 then (if N (20 * l + 2) = 5 * tc_len (N (101 + 8 * f + 3)) then mf_end (cs_inc N 233) m l e else N)
  else if N (20 * l + 1) = 7 then (if N (20 * l + 2) = 4 * (tc_len (N (101 + 8 * f + 3)) + tc_len (N (101 + 8 * q + 3))) then mf_comes (cs_inc N 233) l 0 (-1) (-1) (-1) else N)
  else if N (20 * l + 1) = 4 then (if N (20 * l + 6) = 1 then
    (let N1 := upd N (101 + 8 * f + 8) (N (101 + 8 * f + 8) + (if N (20 * l + 2) - N (20 * l + 2) / 6 * 6 = 0 then 1 else 0))
     if N (20 * l + 2) < N 230 then N1 else if orF (mf_lck N1 l) m 0 = 0 then (if orF (mf_lck N1 e) m 0 = 0 then N1 else mf_end N1 m l e) else mf_end N1 m l e) else N)
  else if N (20 * l + 1) = 8 then (if N (20 * l + 2) < N 230 then N else if orF (mf_lck N l) m 0 = 0 then N else mf_end N m l e)
  else N
theorem ct_X8_both {ad : Nat → Nat → Nat → Nat} {o : wd_S} {n m : Nat} (G : cg (o.1 8) n m) {l f q e : Nat} (hl : l < 5) (hf5 : f < m) (hf : o.1 8 (20 * l + 3) = nI f) (hq5 : q < m) (hq : o.1 8 (20 * l + 4) = nI q) : CT ad MX8_bothLengths [.ref (ad 14 0 0), .int (nI l)] o (RT (some (.int (tc_len (o.1 8 (101 + 8 * f + 3)) + tc_len (o.1 8 (101 + 8 * q + 3))))) o) := by
  obtain ⟨g1, g2, g3, g4, g5, g6⟩ := id G
  refine CT.of (L := [some (.ref (ad 14 0 0)), some (.int (nI l))]) rfl rfl (by decide) (Nat.le_of_ble_eq_true rfl) rfl ?_
  refine aw_aload_n (x := ad 14 0 0) rfl dX8_bothLengths_0 ?_
  refine aw_aload_n (x := ad 14 0 0) rfl dX8_bothLengths_1 ?_
  refine aw_iload_n (x := (nI l)) rfl dX8_bothLengths_2 ?_
  refine aw_iconst (v := 2) (by decide) dX8_bothLengths_3 ?_
  refine aw_rV (As := [.int (nI l), .int 2]) (S := [.ref (ad 14 0 0)]) (v := some (.int (nI f))) (o2 := o) (RTv (ct_X8_of (l := l) (w := 2) (by omega) (by decide)) hf) (mm_fit_of cbX8_of (by decide) (by decide)) wq969 cvX8_of wv14 rfl rfl rfl (Nat.le_of_ble_eq_true rfl) (by decide) (by decide) rfl dX8_bothLengths_4 ?_
  refine aw_iconst (v := 2) (by decide) dX8_bothLengths_7 ?_
  refine aw_rV (As := [.int (nI f), .int 2]) (S := []) (v := some (.int (o.1 8 (101 + 8 * f + 3)))) (o2 := o) (ct_X8_its (s := f) (w := 2) (by omega) (by decide)) (mm_fit_of cbX8_its (by decide) (by decide)) wq949 cvX8_its wv14 rfl rfl rfl (Nat.le_of_ble_eq_true rfl) (by decide) (by decide) rfl dX8_bothLengths_8 ?_
  refine aw_rS (As := [.int (o.1 8 (101 + 8 * f + 3))]) (S := []) (v := some (.int (tc_len (o.1 8 (101 + 8 * f + 3))))) (o2 := o) (ct_X8_lengthOf (g6 _ (by omega)).1 (g6 _ (by omega)).2) (mm_fit_of cbX8_lengthOf (by decide) (by decide)) wq1065 wq1066 rfl rfl (Nat.le_of_ble_eq_true rfl) (by decide) (by decide) rfl dX8_bothLengths_11 ?_
  refine aw_aload_n (x := ad 14 0 0) rfl dX8_bothLengths_14 ?_
  refine aw_aload_n (x := ad 14 0 0) rfl dX8_bothLengths_15 ?_
  refine aw_iload_n (x := (nI l)) rfl dX8_bothLengths_16 ?_
  refine aw_iconst (v := 3) (by decide) dX8_bothLengths_17 ?_
  refine aw_rV (As := [.int (nI l), .int 3]) (S := [.ref (ad 14 0 0), .int (tc_len (o.1 8 (101 + 8 * f + 3)))]) (v := some (.int (nI q))) (o2 := o) (RTv (ct_X8_of (l := l) (w := 3) (by omega) (by decide)) hq) (mm_fit_of cbX8_of (by decide) (by decide)) wq969 cvX8_of wv14 rfl rfl rfl (Nat.le_of_ble_eq_true rfl) (by decide) (by decide) rfl dX8_bothLengths_18 ?_
  refine aw_iconst (v := 2) (by decide) dX8_bothLengths_21 ?_
  refine aw_rV (As := [.int (nI q), .int 2]) (S := [.int (tc_len (o.1 8 (101 + 8 * f + 3)))]) (v := some (.int (o.1 8 (101 + 8 * q + 3)))) (o2 := o) (ct_X8_its (s := q) (w := 2) (by omega) (by decide)) (mm_fit_of cbX8_its (by decide) (by decide)) wq949 cvX8_its wv14 rfl rfl rfl (Nat.le_of_ble_eq_true rfl) (by decide) (by decide) rfl dX8_bothLengths_22 ?_
  refine aw_rS (As := [.int (o.1 8 (101 + 8 * q + 3))]) (S := [.int (tc_len (o.1 8 (101 + 8 * f + 3)))]) (v := some (.int (tc_len (o.1 8 (101 + 8 * q + 3))))) (o2 := o) (ct_X8_lengthOf (g6 _ (by omega)).1 (g6 _ (by omega)).2) (mm_fit_of cbX8_lengthOf (by decide) (by decide)) wq1065 wq1066 rfl rfl (Nat.le_of_ble_eq_true rfl) (by decide) (by decide) rfl dX8_bothLengths_25 ?_
  refine aw_iaddz (z := (tc_len (o.1 8 (101 + 8 * f + 3))) + (tc_len (o.1 8 (101 + 8 * q + 3)))) rfl dX8_bothLengths_28 ?_
  exact aw_iret rfl (by decide) (by decide) dX8_bothLengths_29 ⟨by (first | with_reducible rfl | (simp [oI, mR, wd_w_row, row_self, row_row]; done) | (simp_all [oI, mR, wd_w_row, row_self, row_row]; done) | (simp only [wd_w_row, row_self, row_row, i32_add0] at *; simp [oI, mR, wd_w_row, row_self, row_row]; done)), by (first | with_reducible rfl | (simp [oI, mR, wd_w_row, row_self, row_row]; done) | (simp_all [oI, mR, wd_w_row, row_self, row_row]; done) | (simp only [wd_w_row, row_self, row_row, i32_add0] at *; simp [oI, mR, wd_w_row, row_self, row_row]; done))⟩
theorem ct_X8_goes_0 {ad : Nat → Nat → Nat → Nat} {o : wd_S} {n m : Nat} (G : cg (o.1 8) n m) {l f q e : Nat} (hl : l < 5) (hp : o.1 8 (20 * l + 1) = 0)  : CT ad MX8_goesOn [.ref (ad 14 0 0), .int (nI l)] o (RT none (wd_row o 8 (mf_goes (o.1 8) m l f q e))) := by
  obtain ⟨g1, g2, g3, g4, g5, g6⟩ := id G
  refine CT.of (L := [some (.ref (ad 14 0 0)), some (.int (nI l)), none, none]) rfl rfl (by decide) (Nat.le_of_ble_eq_true rfl) rfl ?_
  refine aw_aload_n (x := ad 14 0 0) rfl dX8_goesOn_0 ?_
  refine aw_iload_n (x := (nI l)) rfl dX8_goesOn_1 ?_
  refine aw_iconst (v := 1) (by decide) dX8_goesOn_2 ?_
  refine aw_rV (As := [.int (nI l), .int 1]) (S := []) (v := some (.int (o.1 8 (20 * l + 2)))) (o2 := o) (ct_X8_of (l := l) (w := 1) (by omega) (by decide)) (mm_fit_of cbX8_of (by decide) (by decide)) wq969 cvX8_of wv14 rfl rfl rfl (Nat.le_of_ble_eq_true rfl) (by decide) (by decide) rfl dX8_goesOn_3 ?_
  refine aw_istore_n (L2 := [some (.ref (ad 14 0 0)), some (.int (nI l)), some (.int (o.1 8 (20 * l + 2))), none]) (by decide) rfl rfl dX8_goesOn_6 ?_
  refine aw_aload_n (x := ad 14 0 0) rfl dX8_goesOn_7 ?_
  refine aw_iload_n (x := (nI l)) rfl dX8_goesOn_8 ?_
  refine aw_iconst (v := 2) (by decide) dX8_goesOn_9 ?_
  refine aw_rV (As := [.int (nI l), .int 2]) (S := []) (v := some (.int (o.1 8 (20 * l + 3)))) (o2 := o) (ct_X8_of (l := l) (w := 2) (by omega) (by decide)) (mm_fit_of cbX8_of (by decide) (by decide)) wq969 cvX8_of wv14 rfl rfl rfl (Nat.le_of_ble_eq_true rfl) (by decide) (by decide) rfl dX8_goesOn_10 ?_
  refine aw_istore_n (L2 := [some (.ref (ad 14 0 0)), some (.int (nI l)), some (.int (o.1 8 (20 * l + 2))), some (.int (o.1 8 (20 * l + 3)))]) (by decide) rfl rfl dX8_goesOn_13 ?_
  refine aw_aload_n (x := ad 14 0 0) rfl dX8_goesOn_14 ?_
  refine aw_iload_n (x := (nI l)) rfl dX8_goesOn_15 ?_
  refine aw_iconst (v := 0) (by decide) dX8_goesOn_16 ?_
  refine aw_rV (As := [.int (nI l), .int 0]) (S := []) (v := some (.int 0)) (o2 := o) (RTv (ct_X8_of (l := l) (w := 0) (by omega) (by decide)) hp) (mm_fit_of cbX8_of (by decide) (by decide)) wq969 cvX8_of wv14 rfl rfl rfl (Nat.le_of_ble_eq_true rfl) (by decide) (by decide) rfl dX8_goesOn_17 ?_
  refine aw_tableOut (tgt := 262) (by decide) (by decide) dX8_goesOn_20 ?_
  exact aw_vret rfl (by decide) (by decide) dX8_goesOn_262 ⟨rfl, by (first | with_reducible rfl | (simp [mf_goes, hp, cs_inc, row_id, oI, mR, wd_w_row, row_self, row_row]; done) | (simp_all [mf_goes, hp, cs_inc, row_id, oI, mR, wd_w_row, row_self, row_row]; done) | (simp only [wd_w_row, row_self, row_row, i32_add0] at *; simp [mf_goes, hp, cs_inc, row_id, oI, mR, wd_w_row, row_self, row_row]; done))⟩
theorem ct_X8_goes_1 {ad : Nat → Nat → Nat → Nat} {o : wd_S} {n m : Nat} (G : cg (o.1 8) n m) {l f q e : Nat} (hl : l < 5) (hp : o.1 8 (20 * l + 1) = 1)  : CT ad MX8_goesOn [.ref (ad 14 0 0), .int (nI l)] o (RT none (wd_row o 8 (mf_goes (o.1 8) m l f q e))) := by
  obtain ⟨g1, g2, g3, g4, g5, g6⟩ := id G
  refine CT.of (L := [some (.ref (ad 14 0 0)), some (.int (nI l)), none, none]) rfl rfl (by decide) (Nat.le_of_ble_eq_true rfl) rfl ?_
  refine aw_aload_n (x := ad 14 0 0) rfl dX8_goesOn_0 ?_
  refine aw_iload_n (x := (nI l)) rfl dX8_goesOn_1 ?_
  refine aw_iconst (v := 1) (by decide) dX8_goesOn_2 ?_
  refine aw_rV (As := [.int (nI l), .int 1]) (S := []) (v := some (.int (o.1 8 (20 * l + 2)))) (o2 := o) (ct_X8_of (l := l) (w := 1) (by omega) (by decide)) (mm_fit_of cbX8_of (by decide) (by decide)) wq969 cvX8_of wv14 rfl rfl rfl (Nat.le_of_ble_eq_true rfl) (by decide) (by decide) rfl dX8_goesOn_3 ?_
  refine aw_istore_n (L2 := [some (.ref (ad 14 0 0)), some (.int (nI l)), some (.int (o.1 8 (20 * l + 2))), none]) (by decide) rfl rfl dX8_goesOn_6 ?_
  refine aw_aload_n (x := ad 14 0 0) rfl dX8_goesOn_7 ?_
  refine aw_iload_n (x := (nI l)) rfl dX8_goesOn_8 ?_
  refine aw_iconst (v := 2) (by decide) dX8_goesOn_9 ?_
  refine aw_rV (As := [.int (nI l), .int 2]) (S := []) (v := some (.int (o.1 8 (20 * l + 3)))) (o2 := o) (ct_X8_of (l := l) (w := 2) (by omega) (by decide)) (mm_fit_of cbX8_of (by decide) (by decide)) wq969 cvX8_of wv14 rfl rfl rfl (Nat.le_of_ble_eq_true rfl) (by decide) (by decide) rfl dX8_goesOn_10 ?_
  refine aw_istore_n (L2 := [some (.ref (ad 14 0 0)), some (.int (nI l)), some (.int (o.1 8 (20 * l + 2))), some (.int (o.1 8 (20 * l + 3)))]) (by decide) rfl rfl dX8_goesOn_13 ?_
  refine aw_aload_n (x := ad 14 0 0) rfl dX8_goesOn_14 ?_
  refine aw_iload_n (x := (nI l)) rfl dX8_goesOn_15 ?_
  refine aw_iconst (v := 0) (by decide) dX8_goesOn_16 ?_
  refine aw_rV (As := [.int (nI l), .int 0]) (S := []) (v := some (.int 1)) (o2 := o) (RTv (ct_X8_of (l := l) (w := 0) (by omega) (by decide)) hp) (mm_fit_of cbX8_of (by decide) (by decide)) wq969 cvX8_of wv14 rfl rfl rfl (Nat.le_of_ble_eq_true rfl) (by decide) (by decide) rfl dX8_goesOn_17 ?_
  refine aw_tableIn (off := 48) (tgt := 68) (by decide) (by decide) (by decide) (by decide) dX8_goesOn_20 ?_
  refine aw_iload_n (x := (o.1 8 (20 * l + 2))) rfl dX8_goesOn_68 ?_
  refine aw_bipush (v := 12) (by decide) dX8_goesOn_69 ?_
  refine aw_icmp_ne (tgt := 262) (by decide) dX8_goesOn_71 (fun b1 => ?_) (fun b1 => ?_)
  · skip
    exact aw_vret rfl (by decide) (by decide) dX8_goesOn_262 ⟨rfl, by (first | with_reducible rfl | (simp [mf_goes, hp, cs_inc, row_id, oI, mR, wd_w_row, row_self, row_row, b1]; done) | (simp_all [mf_goes, hp, cs_inc, row_id, oI, mR, wd_w_row, row_self, row_row, b1]; done) | (simp only [wd_w_row, row_self, row_row, i32_add0] at *; simp [mf_goes, hp, cs_inc, row_id, oI, mR, wd_w_row, row_self, row_row, b1]; done))⟩
  · skip
    refine aw_aload_n (x := ad 14 0 0) rfl dX8_goesOn_74 ?_
    refine aw_iload_n (x := (nI l)) rfl dX8_goesOn_75 ?_
    refine aw_iconst (v := 5) (by decide) dX8_goesOn_76 ?_
    refine aw_iload_n (x := (o.1 8 (20 * l + 3))) rfl dX8_goesOn_77 ?_
    refine aw_iconst (v := (-1)) (by decide) dX8_goesOn_78 ?_
    refine aw_iconst (v := (-1)) (by decide) dX8_goesOn_79 ?_
    refine aw_rV (As := [.int (nI l), .int 5, .int (o.1 8 (20 * l + 3)), .int (-1), .int (-1)]) (S := []) (v := none) (o2 := (wd_row o 8 (mf_comes (o.1 8) l 5 (o.1 8 (20 * l + 3)) (-1) (-1)))) (ct_X8_comes (by omega)) (mm_fit_of cbX8_comes (by decide) (by decide)) wq1013 cvX8_comes wv14 rfl rfl rfl (Nat.le_of_ble_eq_true rfl) (by decide) (by decide) rfl dX8_goesOn_80 ?_
    obtain ⟨o1, ho1⟩ : ∃ z, z = (wd_row o 8 (mf_comes (o.1 8) l 5 (o.1 8 (20 * l + 3)) (-1) (-1))) := ⟨_, rfl⟩
    rw [← ho1]
    have Go1 : cg (o1.1 8) n m := by rw [ho1]; rw [row_self]; exact cg_stl (stl_comes (by omega)) G
    refine aw_goto (tgt := 262) (by decide) dX8_goesOn_83 ?_
    exact aw_vret rfl (by decide) (by decide) dX8_goesOn_262 ⟨rfl, by (subst ho1; first | with_reducible rfl | (simp [mf_goes, hp, cs_inc, row_id, oI, mR, wd_w_row, row_self, row_row, b1]; done) | (simp_all [mf_goes, hp, cs_inc, row_id, oI, mR, wd_w_row, row_self, row_row, b1]; done) | (simp only [wd_w_row, row_self, row_row, i32_add0] at *; simp [mf_goes, hp, cs_inc, row_id, oI, mR, wd_w_row, row_self, row_row, b1]; done))⟩
theorem ct_X8_goes_2 {ad : Nat → Nat → Nat → Nat} {o : wd_S} {n m : Nat} (G : cg (o.1 8) n m) {l f q e : Nat} (hl : l < 5) (hp : o.1 8 (20 * l + 1) = 2)  : CT ad MX8_goesOn [.ref (ad 14 0 0), .int (nI l)] o (RT none (wd_row o 8 (mf_goes (o.1 8) m l f q e))) := by
  obtain ⟨g1, g2, g3, g4, g5, g6⟩ := id G
  refine CT.of (L := [some (.ref (ad 14 0 0)), some (.int (nI l)), none, none]) rfl rfl (by decide) (Nat.le_of_ble_eq_true rfl) rfl ?_
  refine aw_aload_n (x := ad 14 0 0) rfl dX8_goesOn_0 ?_
  refine aw_iload_n (x := (nI l)) rfl dX8_goesOn_1 ?_
  refine aw_iconst (v := 1) (by decide) dX8_goesOn_2 ?_
  refine aw_rV (As := [.int (nI l), .int 1]) (S := []) (v := some (.int (o.1 8 (20 * l + 2)))) (o2 := o) (ct_X8_of (l := l) (w := 1) (by omega) (by decide)) (mm_fit_of cbX8_of (by decide) (by decide)) wq969 cvX8_of wv14 rfl rfl rfl (Nat.le_of_ble_eq_true rfl) (by decide) (by decide) rfl dX8_goesOn_3 ?_
  refine aw_istore_n (L2 := [some (.ref (ad 14 0 0)), some (.int (nI l)), some (.int (o.1 8 (20 * l + 2))), none]) (by decide) rfl rfl dX8_goesOn_6 ?_
  refine aw_aload_n (x := ad 14 0 0) rfl dX8_goesOn_7 ?_
  refine aw_iload_n (x := (nI l)) rfl dX8_goesOn_8 ?_
  refine aw_iconst (v := 2) (by decide) dX8_goesOn_9 ?_
  refine aw_rV (As := [.int (nI l), .int 2]) (S := []) (v := some (.int (o.1 8 (20 * l + 3)))) (o2 := o) (ct_X8_of (l := l) (w := 2) (by omega) (by decide)) (mm_fit_of cbX8_of (by decide) (by decide)) wq969 cvX8_of wv14 rfl rfl rfl (Nat.le_of_ble_eq_true rfl) (by decide) (by decide) rfl dX8_goesOn_10 ?_
  refine aw_istore_n (L2 := [some (.ref (ad 14 0 0)), some (.int (nI l)), some (.int (o.1 8 (20 * l + 2))), some (.int (o.1 8 (20 * l + 3)))]) (by decide) rfl rfl dX8_goesOn_13 ?_
  refine aw_aload_n (x := ad 14 0 0) rfl dX8_goesOn_14 ?_
  refine aw_iload_n (x := (nI l)) rfl dX8_goesOn_15 ?_
  refine aw_iconst (v := 0) (by decide) dX8_goesOn_16 ?_
  refine aw_rV (As := [.int (nI l), .int 0]) (S := []) (v := some (.int 2)) (o2 := o) (RTv (ct_X8_of (l := l) (w := 0) (by omega) (by decide)) hp) (mm_fit_of cbX8_of (by decide) (by decide)) wq969 cvX8_of wv14 rfl rfl rfl (Nat.le_of_ble_eq_true rfl) (by decide) (by decide) rfl dX8_goesOn_17 ?_
  refine aw_tableIn (off := 242) (tgt := 262) (by decide) (by decide) (by decide) (by decide) dX8_goesOn_20 ?_
  exact aw_vret rfl (by decide) (by decide) dX8_goesOn_262 ⟨rfl, by (first | with_reducible rfl | (simp [mf_goes, hp, cs_inc, row_id, oI, mR, wd_w_row, row_self, row_row]; done) | (simp_all [mf_goes, hp, cs_inc, row_id, oI, mR, wd_w_row, row_self, row_row]; done) | (simp only [wd_w_row, row_self, row_row, i32_add0] at *; simp [mf_goes, hp, cs_inc, row_id, oI, mR, wd_w_row, row_self, row_row]; done))⟩
theorem ct_X8_goes_3 {ad : Nat → Nat → Nat → Nat} {o : wd_S} {n m : Nat} (G : cg (o.1 8) n m) {l f q e : Nat} (hl : l < 5) (hp : o.1 8 (20 * l + 1) = 3) (hf5 : f < m) (hf : o.1 8 (20 * l + 3) = nI f) (he5 : e < 5) (he : o.1 8 (20 * l + 5) = nI e) : CT ad MX8_goesOn [.ref (ad 14 0 0), .int (nI l)] o (RT none (wd_row o 8 (mf_goes (o.1 8) m l f q e))) := by
  obtain ⟨g1, g2, g3, g4, g5, g6⟩ := id G
  refine CT.of (L := [some (.ref (ad 14 0 0)), some (.int (nI l)), none, none]) rfl rfl (by decide) (Nat.le_of_ble_eq_true rfl) rfl ?_
  refine aw_aload_n (x := ad 14 0 0) rfl dX8_goesOn_0 ?_
  refine aw_iload_n (x := (nI l)) rfl dX8_goesOn_1 ?_
  refine aw_iconst (v := 1) (by decide) dX8_goesOn_2 ?_
  refine aw_rV (As := [.int (nI l), .int 1]) (S := []) (v := some (.int (o.1 8 (20 * l + 2)))) (o2 := o) (ct_X8_of (l := l) (w := 1) (by omega) (by decide)) (mm_fit_of cbX8_of (by decide) (by decide)) wq969 cvX8_of wv14 rfl rfl rfl (Nat.le_of_ble_eq_true rfl) (by decide) (by decide) rfl dX8_goesOn_3 ?_
  refine aw_istore_n (L2 := [some (.ref (ad 14 0 0)), some (.int (nI l)), some (.int (o.1 8 (20 * l + 2))), none]) (by decide) rfl rfl dX8_goesOn_6 ?_
  refine aw_aload_n (x := ad 14 0 0) rfl dX8_goesOn_7 ?_
  refine aw_iload_n (x := (nI l)) rfl dX8_goesOn_8 ?_
  refine aw_iconst (v := 2) (by decide) dX8_goesOn_9 ?_
  refine aw_rV (As := [.int (nI l), .int 2]) (S := []) (v := some (.int (nI f))) (o2 := o) (RTv (ct_X8_of (l := l) (w := 2) (by omega) (by decide)) hf) (mm_fit_of cbX8_of (by decide) (by decide)) wq969 cvX8_of wv14 rfl rfl rfl (Nat.le_of_ble_eq_true rfl) (by decide) (by decide) rfl dX8_goesOn_10 ?_
  refine aw_istore_n (L2 := [some (.ref (ad 14 0 0)), some (.int (nI l)), some (.int (o.1 8 (20 * l + 2))), some (.int (nI f))]) (by decide) rfl rfl dX8_goesOn_13 ?_
  refine aw_aload_n (x := ad 14 0 0) rfl dX8_goesOn_14 ?_
  refine aw_iload_n (x := (nI l)) rfl dX8_goesOn_15 ?_
  refine aw_iconst (v := 0) (by decide) dX8_goesOn_16 ?_
  refine aw_rV (As := [.int (nI l), .int 0]) (S := []) (v := some (.int 3)) (o2 := o) (RTv (ct_X8_of (l := l) (w := 0) (by omega) (by decide)) hp) (mm_fit_of cbX8_of (by decide) (by decide)) wq969 cvX8_of wv14 rfl rfl rfl (Nat.le_of_ble_eq_true rfl) (by decide) (by decide) rfl dX8_goesOn_17 ?_
  refine aw_tableIn (off := 66) (tgt := 86) (by decide) (by decide) (by decide) (by decide) dX8_goesOn_20 ?_
  refine aw_iload_n (x := (o.1 8 (20 * l + 2))) rfl dX8_goesOn_86 ?_
  refine aw_iconst (v := 5) (by decide) dX8_goesOn_87 ?_
  refine aw_aload_n (x := ad 14 0 0) rfl dX8_goesOn_88 ?_
  refine aw_iload_n (x := (nI f)) rfl dX8_goesOn_89 ?_
  refine aw_iconst (v := 2) (by decide) dX8_goesOn_90 ?_
  refine aw_rV (As := [.int (nI f), .int 2]) (S := [.int 5, .int (o.1 8 (20 * l + 2))]) (v := some (.int (o.1 8 (101 + 8 * f + 3)))) (o2 := o) (ct_X8_its (s := f) (w := 2) (by omega) (by decide)) (mm_fit_of cbX8_its (by decide) (by decide)) wq949 cvX8_its wv14 rfl rfl rfl (Nat.le_of_ble_eq_true rfl) (by decide) (by decide) rfl dX8_goesOn_91 ?_
  refine aw_rS (As := [.int (o.1 8 (101 + 8 * f + 3))]) (S := [.int 5, .int (o.1 8 (20 * l + 2))]) (v := some (.int (tc_len (o.1 8 (101 + 8 * f + 3))))) (o2 := o) (ct_X8_lengthOf (g6 _ (by omega)).1 (g6 _ (by omega)).2) (mm_fit_of cbX8_lengthOf (by decide) (by decide)) wq1065 wq1066 rfl rfl (Nat.le_of_ble_eq_true rfl) (by decide) (by decide) rfl dX8_goesOn_94 ?_
  refine aw_imulz (z := 5 * (tc_len (o.1 8 (101 + 8 * f + 3)))) rfl dX8_goesOn_97 ?_
  refine aw_icmp_ne (tgt := 262) (by decide) dX8_goesOn_98 (fun b1 => ?_) (fun b1 => ?_)
  · skip
    exact aw_vret rfl (by decide) (by decide) dX8_goesOn_262 ⟨rfl, by (first | with_reducible rfl | (simp [mf_goes, hp, cs_inc, row_id, oI, mR, wd_w_row, row_self, row_row, b1]; done) | (simp_all [mf_goes, hp, cs_inc, row_id, oI, mR, wd_w_row, row_self, row_row, b1]; done) | (simp only [wd_w_row, row_self, row_row, i32_add0] at *; simp [mf_goes, hp, cs_inc, row_id, oI, mR, wd_w_row, row_self, row_row, b1]; done))⟩
  · skip
    refine aw_aload_n (x := ad 14 0 0) rfl dX8_goesOn_101 ?_
    refine aw_getr (q := (15, 0, 0)) wv14 rfl flX8_7 rfl rfl dX8_goesOn_102 ?_
    refine aw_sipush (v := 233) (by decide) dX8_goesOn_105 ?_
    refine aw_dup2 rfl rfl dX8_goesOn_108 ?_
    refine aw_ild (x := 233) (q := (8, 233)) (y := o.1 8 233) (by decide) (wv15 (by decide)) rfl rfl (Nat.le_of_ble_eq_true rfl) rfl dX8_goesOn_109 ?_
    refine aw_iconst (v := 1) (by decide) dX8_goesOn_110 ?_
    refine aw_iaddz (z := (o.1 8 233) + 1) rfl dX8_goesOn_111 ?_
    refine aw_ist (x := 233) (q := (8, 233)) (y := (o.1 8 233) + 1) (by decide) (wv15 (by decide)) rfl (Nat.le_of_ble_eq_true rfl) rfl dX8_goesOn_112 ?_
    refine aw_aload_n (x := ad 14 0 0) rfl dX8_goesOn_113 ?_
    refine aw_iload_n (x := (nI l)) rfl dX8_goesOn_114 ?_
    obtain ⟨o1, ho1⟩ : ∃ z, z = (wd_w o 8 233 ((o.1 8 233) + 1)) := ⟨_, rfl⟩
    rw [← ho1]
    have Go1 : cg (o1.1 8) n m := by rw [ho1]; simp only [wd_w_row, row_self]; exact cg_upd (G) (by omega) (by omega) (fun _ _ => ⟨by omega, by omega⟩)
    have hpo1 : o1.1 8 (20 * l + 1) = 3 := by rw [ho1]; simp only [wd_w_row, row_self]; rw [upd_ne _ _ (by omega)]; exact hp
    have hfo1 : o1.1 8 (20 * l + 3) = nI f := by rw [ho1]; simp only [wd_w_row, row_self]; rw [upd_ne _ _ (by omega)]; exact hf
    have heo1 : o1.1 8 (20 * l + 5) = nI e := by rw [ho1]; simp only [wd_w_row, row_self]; rw [upd_ne _ _ (by omega)]; exact he
    refine aw_rV (As := [.int (nI l)]) (S := []) (v := none) (o2 := (wd_row o1 8 (mf_end (o1.1 8) m l e))) (ct_X8_ends Go1 hl (Or.inr ⟨he5, heo1⟩)) (mm_fit_of cbX8_ends (by decide) (by decide)) wq1033 cvX8_ends wv14 rfl rfl rfl (Nat.le_of_ble_eq_true rfl) (by decide) (by decide) rfl dX8_goesOn_115 ?_
    refine aw_goto (tgt := 262) (by decide) dX8_goesOn_118 ?_
    exact aw_vret rfl (by decide) (by decide) dX8_goesOn_262 ⟨rfl, by (subst ho1; first | with_reducible rfl | (simp [mf_goes, hp, cs_inc, row_id, oI, mR, wd_w_row, row_self, row_row, b1]; done) | (simp_all [mf_goes, hp, cs_inc, row_id, oI, mR, wd_w_row, row_self, row_row, b1]; done) | (simp only [wd_w_row, row_self, row_row, i32_add0] at *; simp [mf_goes, hp, cs_inc, row_id, oI, mR, wd_w_row, row_self, row_row, b1]; done))⟩
theorem ct_X8_goes_4 {ad : Nat → Nat → Nat → Nat} {o : wd_S} {n m : Nat} (G : cg (o.1 8) n m) {l f q e : Nat} (hl : l < 5) (hp : o.1 8 (20 * l + 1) = 4) (hf5 : f < m) (hf : o.1 8 (20 * l + 3) = nI f) (he5 : e < 5) (he : o.1 8 (20 * l + 5) = nI e) : CT ad MX8_goesOn [.ref (ad 14 0 0), .int (nI l)] o (RT none (wd_row o 8 (mf_goes (o.1 8) m l f q e))) := by
  obtain ⟨g1, g2, g3, g4, g5, g6⟩ := id G
  refine CT.of (L := [some (.ref (ad 14 0 0)), some (.int (nI l)), none, none]) rfl rfl (by decide) (Nat.le_of_ble_eq_true rfl) rfl ?_
  refine aw_aload_n (x := ad 14 0 0) rfl dX8_goesOn_0 ?_
  refine aw_iload_n (x := (nI l)) rfl dX8_goesOn_1 ?_
  refine aw_iconst (v := 1) (by decide) dX8_goesOn_2 ?_
  refine aw_rV (As := [.int (nI l), .int 1]) (S := []) (v := some (.int (o.1 8 (20 * l + 2)))) (o2 := o) (ct_X8_of (l := l) (w := 1) (by omega) (by decide)) (mm_fit_of cbX8_of (by decide) (by decide)) wq969 cvX8_of wv14 rfl rfl rfl (Nat.le_of_ble_eq_true rfl) (by decide) (by decide) rfl dX8_goesOn_3 ?_
  refine aw_istore_n (L2 := [some (.ref (ad 14 0 0)), some (.int (nI l)), some (.int (o.1 8 (20 * l + 2))), none]) (by decide) rfl rfl dX8_goesOn_6 ?_
  refine aw_aload_n (x := ad 14 0 0) rfl dX8_goesOn_7 ?_
  refine aw_iload_n (x := (nI l)) rfl dX8_goesOn_8 ?_
  refine aw_iconst (v := 2) (by decide) dX8_goesOn_9 ?_
  refine aw_rV (As := [.int (nI l), .int 2]) (S := []) (v := some (.int (nI f))) (o2 := o) (RTv (ct_X8_of (l := l) (w := 2) (by omega) (by decide)) hf) (mm_fit_of cbX8_of (by decide) (by decide)) wq969 cvX8_of wv14 rfl rfl rfl (Nat.le_of_ble_eq_true rfl) (by decide) (by decide) rfl dX8_goesOn_10 ?_
  refine aw_istore_n (L2 := [some (.ref (ad 14 0 0)), some (.int (nI l)), some (.int (o.1 8 (20 * l + 2))), some (.int (nI f))]) (by decide) rfl rfl dX8_goesOn_13 ?_
  refine aw_aload_n (x := ad 14 0 0) rfl dX8_goesOn_14 ?_
  refine aw_iload_n (x := (nI l)) rfl dX8_goesOn_15 ?_
  refine aw_iconst (v := 0) (by decide) dX8_goesOn_16 ?_
  refine aw_rV (As := [.int (nI l), .int 0]) (S := []) (v := some (.int 4)) (o2 := o) (RTv (ct_X8_of (l := l) (w := 0) (by omega) (by decide)) hp) (mm_fit_of cbX8_of (by decide) (by decide)) wq969 cvX8_of wv14 rfl rfl rfl (Nat.le_of_ble_eq_true rfl) (by decide) (by decide) rfl dX8_goesOn_17 ?_
  refine aw_tableIn (off := 136) (tgt := 156) (by decide) (by decide) (by decide) (by decide) dX8_goesOn_20 ?_
  refine aw_aload_n (x := ad 14 0 0) rfl dX8_goesOn_156 ?_
  refine aw_iload_n (x := (nI l)) rfl dX8_goesOn_157 ?_
  refine aw_iconst (v := 5) (by decide) dX8_goesOn_158 ?_
  refine aw_rV (As := [.int (nI l), .int 5]) (S := []) (v := some (.int (o.1 8 (20 * l + 6)))) (o2 := o) (ct_X8_of (l := l) (w := 5) (by omega) (by decide)) (mm_fit_of cbX8_of (by decide) (by decide)) wq969 cvX8_of wv14 rfl rfl rfl (Nat.le_of_ble_eq_true rfl) (by decide) (by decide) rfl dX8_goesOn_159 ?_
  refine aw_iconst (v := 1) (by decide) dX8_goesOn_162 ?_
  refine aw_icmp_ne (tgt := 262) (by decide) dX8_goesOn_163 (fun b1 => ?_) (fun b1 => ?_)
  · skip
    exact aw_vret rfl (by decide) (by decide) dX8_goesOn_262 ⟨rfl, by (first | with_reducible rfl | (simp [mf_goes, hp, cs_inc, row_id, oI, mR, wd_w_row, row_self, row_row, b1]; done) | (simp_all [mf_goes, hp, cs_inc, row_id, oI, mR, wd_w_row, row_self, row_row, b1]; done) | (simp only [wd_w_row, row_self, row_row, i32_add0] at *; simp [mf_goes, hp, cs_inc, row_id, oI, mR, wd_w_row, row_self, row_row, b1]; done))⟩
  · skip
    refine aw_aload_n (x := ad 14 0 0) rfl dX8_goesOn_166 ?_
    refine aw_iload_n (x := (nI f)) rfl dX8_goesOn_167 ?_
    refine aw_bipush (v := 7) (by decide) dX8_goesOn_168 ?_
    refine aw_aload_n (x := ad 14 0 0) rfl dX8_goesOn_170 ?_
    refine aw_iload_n (x := (nI f)) rfl dX8_goesOn_171 ?_
    refine aw_bipush (v := 7) (by decide) dX8_goesOn_172 ?_
    refine aw_rV (As := [.int (nI f), .int 7]) (S := [.int 7, .int (nI f), .ref (ad 14 0 0)]) (v := some (.int (o.1 8 (101 + 8 * f + 8)))) (o2 := o) (ct_X8_its (s := f) (w := 7) (by omega) (by decide)) (mm_fit_of cbX8_its (by decide) (by decide)) wq949 cvX8_its wv14 rfl rfl rfl (Nat.le_of_ble_eq_true rfl) (by decide) (by decide) rfl dX8_goesOn_174 ?_
    refine aw_iload_n (x := (o.1 8 (20 * l + 2))) rfl dX8_goesOn_177 ?_
    refine aw_bipush (v := 6) (by decide) dX8_goesOn_178 ?_
    refine aw_iremz (z := (o.1 8 (20 * l + 2)) - (o.1 8 (20 * l + 2)) / 6 * 6) (by decide) rfl dX8_goesOn_180 ?_
    refine aw_if_ne (tgt := 188) (by decide) dX8_goesOn_181 (fun b2 => ?_) (fun b2 => ?_)
    · skip
      refine aw_iconst (v := 0) (by decide) dX8_goesOn_188 ?_
      refine aw_iaddz (z := (o.1 8 (101 + 8 * f + 8)) + 0) rfl dX8_goesOn_189 ?_
      refine aw_rV (As := [.int (nI f), .int 7, .int ((o.1 8 (101 + 8 * f + 8)) + 0)]) (S := []) (v := none) (o2 := (wd_w o 8 (101 + 8 * f + 8) ((o.1 8 (101 + 8 * f + 8)) + 0))) (ct_X8_give (s := f) (w := 7) (by omega) (by decide)) (mm_fit_of cbX8_give (by decide) (by decide)) wq953 cvX8_give wv14 rfl rfl rfl (Nat.le_of_ble_eq_true rfl) (by decide) (by decide) rfl dX8_goesOn_190 ?_
      refine aw_iload_n (x := (o.1 8 (20 * l + 2))) rfl dX8_goesOn_193 ?_
      refine aw_aload_n (x := ad 14 0 0) rfl dX8_goesOn_194 ?_
      refine aw_getr (q := (15, 0, 0)) wv14 rfl flX8_7 rfl rfl dX8_goesOn_195 ?_
      refine aw_sipush (v := 230) (by decide) dX8_goesOn_198 ?_
      refine aw_ild (x := 230) (q := (8, 230)) (y := o.1 8 230) (by decide) (wv15 (by decide)) rfl (by simp only [wd_get]; rw [if_neg (by omega)]) (Nat.le_of_ble_eq_true rfl) rfl dX8_goesOn_201 ?_
      refine aw_icmp_lt (tgt := 262) (by decide) dX8_goesOn_202 (fun b3 => ?_) (fun b3 => ?_)
      · skip
        exact aw_vret rfl (by decide) (by decide) dX8_goesOn_262 ⟨rfl, by (first | with_reducible rfl | (simp [mf_goes, hp, cs_inc, row_id, oI, mR, wd_w_row, row_self, row_row, b1, b2, b3]; done) | (simp_all [mf_goes, hp, cs_inc, row_id, oI, mR, wd_w_row, row_self, row_row, b1, b2, b3]; done) | (simp only [wd_w_row, row_self, row_row, i32_add0] at *; simp [mf_goes, hp, cs_inc, row_id, oI, mR, wd_w_row, row_self, row_row, b1, b2, b3]; done))⟩
      · skip
        refine aw_aload_n (x := ad 14 0 0) rfl dX8_goesOn_205 ?_
        refine aw_iload_n (x := (nI l)) rfl dX8_goesOn_206 ?_
        obtain ⟨o1, ho1⟩ : ∃ z, z = (wd_w o 8 (101 + 8 * f + 8) ((o.1 8 (101 + 8 * f + 8)) + 0)) := ⟨_, rfl⟩
        rw [← ho1]
        have Go1 : cg (o1.1 8) n m := by rw [ho1]; simp only [wd_w_row, row_self]; exact cg_upd (G) (by omega) (by omega) (fun _ _ => ⟨by omega, by omega⟩)
        have hpo1 : o1.1 8 (20 * l + 1) = 4 := by rw [ho1]; simp only [wd_w_row, row_self]; rw [upd_ne _ _ (by omega)]; exact hp
        have hfo1 : o1.1 8 (20 * l + 3) = nI f := by rw [ho1]; simp only [wd_w_row, row_self]; rw [upd_ne _ _ (by omega)]; exact hf
        have heo1 : o1.1 8 (20 * l + 5) = nI e := by rw [ho1]; simp only [wd_w_row, row_self]; rw [upd_ne _ _ (by omega)]; exact he
        refine aw_rV (As := [.int (nI l)]) (S := []) (v := some (.int (orF (mf_lck (o1.1 8) l) m 0))) (o2 := o1) (ct_X8_isLocked Go1 (by omega)) (mm_fit_of cbX8_isLocked (by decide) (by decide)) wq1078 cvX8_isLocked wv14 rfl rfl rfl (Nat.le_of_ble_eq_true rfl) (by decide) (by decide) rfl dX8_goesOn_207 ?_
        refine aw_if_ne (tgt := 226) (by decide) dX8_goesOn_210 (fun b4 => ?_) (fun b4 => ?_)
        · skip
          refine aw_aload_n (x := ad 14 0 0) rfl dX8_goesOn_226 ?_
          refine aw_iload_n (x := (nI l)) rfl dX8_goesOn_227 ?_
          refine aw_rV (As := [.int (nI l)]) (S := []) (v := none) (o2 := (wd_row o1 8 (mf_end (o1.1 8) m l e))) (ct_X8_ends Go1 hl (Or.inr ⟨he5, heo1⟩)) (mm_fit_of cbX8_ends (by decide) (by decide)) wq1033 cvX8_ends wv14 rfl rfl rfl (Nat.le_of_ble_eq_true rfl) (by decide) (by decide) rfl dX8_goesOn_228 ?_
          refine aw_goto (tgt := 262) (by decide) dX8_goesOn_231 ?_
          exact aw_vret rfl (by decide) (by decide) dX8_goesOn_262 ⟨rfl, by (subst ho1; first | with_reducible rfl | (simp [mf_goes, hp, cs_inc, row_id, oI, mR, wd_w_row, row_self, row_row, b1, b2, b3, b4]; done) | (simp_all [mf_goes, hp, cs_inc, row_id, oI, mR, wd_w_row, row_self, row_row, b1, b2, b3, b4]; done) | (simp only [wd_w_row, row_self, row_row, i32_add0] at *; simp [mf_goes, hp, cs_inc, row_id, oI, mR, wd_w_row, row_self, row_row, b1, b2, b3, b4]; done))⟩
        · skip
          refine aw_aload_n (x := ad 14 0 0) rfl dX8_goesOn_213 ?_
          refine aw_aload_n (x := ad 14 0 0) rfl dX8_goesOn_214 ?_
          refine aw_iload_n (x := (nI l)) rfl dX8_goesOn_215 ?_
          refine aw_iconst (v := 4) (by decide) dX8_goesOn_216 ?_
          refine aw_rV (As := [.int (nI l), .int 4]) (S := [.ref (ad 14 0 0)]) (v := some (.int (nI e))) (o2 := o1) (RTv (ct_X8_of (l := l) (w := 4) (by omega) (by decide)) heo1) (mm_fit_of cbX8_of (by decide) (by decide)) wq969 cvX8_of wv14 rfl rfl rfl (Nat.le_of_ble_eq_true rfl) (by decide) (by decide) rfl dX8_goesOn_217 ?_
          refine aw_rV (As := [.int (nI e)]) (S := []) (v := some (.int (orF (mf_lck (o1.1 8) e) m 0))) (o2 := o1) (ct_X8_isLocked Go1 (by omega)) (mm_fit_of cbX8_isLocked (by decide) (by decide)) wq1078 cvX8_isLocked wv14 rfl rfl rfl (Nat.le_of_ble_eq_true rfl) (by decide) (by decide) rfl dX8_goesOn_220 ?_
          refine aw_if_eq (tgt := 262) (by decide) dX8_goesOn_223 (fun b5 => ?_) (fun b5 => ?_)
          · skip
            exact aw_vret rfl (by decide) (by decide) dX8_goesOn_262 ⟨rfl, by (subst ho1; first | with_reducible rfl | (simp [mf_goes, hp, cs_inc, row_id, oI, mR, wd_w_row, row_self, row_row, b1, b2, b3, b4, b5]; done) | (simp_all [mf_goes, hp, cs_inc, row_id, oI, mR, wd_w_row, row_self, row_row, b1, b2, b3, b4, b5]; done) | (simp only [wd_w_row, row_self, row_row, i32_add0] at *; simp [mf_goes, hp, cs_inc, row_id, oI, mR, wd_w_row, row_self, row_row, b1, b2, b3, b4, b5]; done))⟩
          · skip
            refine aw_aload_n (x := ad 14 0 0) rfl dX8_goesOn_226 ?_
            refine aw_iload_n (x := (nI l)) rfl dX8_goesOn_227 ?_
            refine aw_rV (As := [.int (nI l)]) (S := []) (v := none) (o2 := (wd_row o1 8 (mf_end (o1.1 8) m l e))) (ct_X8_ends Go1 hl (Or.inr ⟨he5, heo1⟩)) (mm_fit_of cbX8_ends (by decide) (by decide)) wq1033 cvX8_ends wv14 rfl rfl rfl (Nat.le_of_ble_eq_true rfl) (by decide) (by decide) rfl dX8_goesOn_228 ?_
            refine aw_goto (tgt := 262) (by decide) dX8_goesOn_231 ?_
            exact aw_vret rfl (by decide) (by decide) dX8_goesOn_262 ⟨rfl, by (subst ho1; first | with_reducible rfl | (simp [mf_goes, hp, cs_inc, row_id, oI, mR, wd_w_row, row_self, row_row, b1, b2, b3, b4, b5]; done) | (simp_all [mf_goes, hp, cs_inc, row_id, oI, mR, wd_w_row, row_self, row_row, b1, b2, b3, b4, b5]; done) | (simp only [wd_w_row, row_self, row_row, i32_add0] at *; simp [mf_goes, hp, cs_inc, row_id, oI, mR, wd_w_row, row_self, row_row, b1, b2, b3, b4, b5]; done))⟩
    · skip
      refine aw_iconst (v := 1) (by decide) dX8_goesOn_184 ?_
      refine aw_goto (tgt := 189) (by decide) dX8_goesOn_185 ?_
      refine aw_iaddz (z := (o.1 8 (101 + 8 * f + 8)) + 1) rfl dX8_goesOn_189 ?_
      refine aw_rV (As := [.int (nI f), .int 7, .int ((o.1 8 (101 + 8 * f + 8)) + 1)]) (S := []) (v := none) (o2 := (wd_w o 8 (101 + 8 * f + 8) ((o.1 8 (101 + 8 * f + 8)) + 1))) (ct_X8_give (s := f) (w := 7) (by omega) (by decide)) (mm_fit_of cbX8_give (by decide) (by decide)) wq953 cvX8_give wv14 rfl rfl rfl (Nat.le_of_ble_eq_true rfl) (by decide) (by decide) rfl dX8_goesOn_190 ?_
      refine aw_iload_n (x := (o.1 8 (20 * l + 2))) rfl dX8_goesOn_193 ?_
      refine aw_aload_n (x := ad 14 0 0) rfl dX8_goesOn_194 ?_
      refine aw_getr (q := (15, 0, 0)) wv14 rfl flX8_7 rfl rfl dX8_goesOn_195 ?_
      refine aw_sipush (v := 230) (by decide) dX8_goesOn_198 ?_
      refine aw_ild (x := 230) (q := (8, 230)) (y := o.1 8 230) (by decide) (wv15 (by decide)) rfl (by simp only [wd_get]; rw [if_neg (by omega)]) (Nat.le_of_ble_eq_true rfl) rfl dX8_goesOn_201 ?_
      refine aw_icmp_lt (tgt := 262) (by decide) dX8_goesOn_202 (fun b6 => ?_) (fun b6 => ?_)
      · skip
        exact aw_vret rfl (by decide) (by decide) dX8_goesOn_262 ⟨rfl, by (first | with_reducible rfl | (simp [mf_goes, hp, cs_inc, row_id, oI, mR, wd_w_row, row_self, row_row, b1, b2, b6]; done) | (simp_all [mf_goes, hp, cs_inc, row_id, oI, mR, wd_w_row, row_self, row_row, b1, b2, b6]; done) | (simp only [wd_w_row, row_self, row_row, i32_add0] at *; simp [mf_goes, hp, cs_inc, row_id, oI, mR, wd_w_row, row_self, row_row, b1, b2, b6]; done))⟩
      · skip
        refine aw_aload_n (x := ad 14 0 0) rfl dX8_goesOn_205 ?_
        refine aw_iload_n (x := (nI l)) rfl dX8_goesOn_206 ?_
        obtain ⟨o2, ho2⟩ : ∃ z, z = (wd_w o 8 (101 + 8 * f + 8) ((o.1 8 (101 + 8 * f + 8)) + 1)) := ⟨_, rfl⟩
        rw [← ho2]
        have Go2 : cg (o2.1 8) n m := by rw [ho2]; simp only [wd_w_row, row_self]; exact cg_upd (G) (by omega) (by omega) (fun _ _ => ⟨by omega, by omega⟩)
        have hpo2 : o2.1 8 (20 * l + 1) = 4 := by rw [ho2]; simp only [wd_w_row, row_self]; rw [upd_ne _ _ (by omega)]; exact hp
        have hfo2 : o2.1 8 (20 * l + 3) = nI f := by rw [ho2]; simp only [wd_w_row, row_self]; rw [upd_ne _ _ (by omega)]; exact hf
        have heo2 : o2.1 8 (20 * l + 5) = nI e := by rw [ho2]; simp only [wd_w_row, row_self]; rw [upd_ne _ _ (by omega)]; exact he
        refine aw_rV (As := [.int (nI l)]) (S := []) (v := some (.int (orF (mf_lck (o2.1 8) l) m 0))) (o2 := o2) (ct_X8_isLocked Go2 (by omega)) (mm_fit_of cbX8_isLocked (by decide) (by decide)) wq1078 cvX8_isLocked wv14 rfl rfl rfl (Nat.le_of_ble_eq_true rfl) (by decide) (by decide) rfl dX8_goesOn_207 ?_
        refine aw_if_ne (tgt := 226) (by decide) dX8_goesOn_210 (fun b7 => ?_) (fun b7 => ?_)
        · skip
          refine aw_aload_n (x := ad 14 0 0) rfl dX8_goesOn_226 ?_
          refine aw_iload_n (x := (nI l)) rfl dX8_goesOn_227 ?_
          refine aw_rV (As := [.int (nI l)]) (S := []) (v := none) (o2 := (wd_row o2 8 (mf_end (o2.1 8) m l e))) (ct_X8_ends Go2 hl (Or.inr ⟨he5, heo2⟩)) (mm_fit_of cbX8_ends (by decide) (by decide)) wq1033 cvX8_ends wv14 rfl rfl rfl (Nat.le_of_ble_eq_true rfl) (by decide) (by decide) rfl dX8_goesOn_228 ?_
          refine aw_goto (tgt := 262) (by decide) dX8_goesOn_231 ?_
          exact aw_vret rfl (by decide) (by decide) dX8_goesOn_262 ⟨rfl, by (subst ho2; first | with_reducible rfl | (simp [mf_goes, hp, cs_inc, row_id, oI, mR, wd_w_row, row_self, row_row, b1, b2, b6, b7]; done) | (simp_all [mf_goes, hp, cs_inc, row_id, oI, mR, wd_w_row, row_self, row_row, b1, b2, b6, b7]; done) | (simp only [wd_w_row, row_self, row_row, i32_add0] at *; simp [mf_goes, hp, cs_inc, row_id, oI, mR, wd_w_row, row_self, row_row, b1, b2, b6, b7]; done))⟩
        · skip
          refine aw_aload_n (x := ad 14 0 0) rfl dX8_goesOn_213 ?_
          refine aw_aload_n (x := ad 14 0 0) rfl dX8_goesOn_214 ?_
          refine aw_iload_n (x := (nI l)) rfl dX8_goesOn_215 ?_
          refine aw_iconst (v := 4) (by decide) dX8_goesOn_216 ?_
          refine aw_rV (As := [.int (nI l), .int 4]) (S := [.ref (ad 14 0 0)]) (v := some (.int (nI e))) (o2 := o2) (RTv (ct_X8_of (l := l) (w := 4) (by omega) (by decide)) heo2) (mm_fit_of cbX8_of (by decide) (by decide)) wq969 cvX8_of wv14 rfl rfl rfl (Nat.le_of_ble_eq_true rfl) (by decide) (by decide) rfl dX8_goesOn_217 ?_
          refine aw_rV (As := [.int (nI e)]) (S := []) (v := some (.int (orF (mf_lck (o2.1 8) e) m 0))) (o2 := o2) (ct_X8_isLocked Go2 (by omega)) (mm_fit_of cbX8_isLocked (by decide) (by decide)) wq1078 cvX8_isLocked wv14 rfl rfl rfl (Nat.le_of_ble_eq_true rfl) (by decide) (by decide) rfl dX8_goesOn_220 ?_
          refine aw_if_eq (tgt := 262) (by decide) dX8_goesOn_223 (fun b8 => ?_) (fun b8 => ?_)
          · skip
            exact aw_vret rfl (by decide) (by decide) dX8_goesOn_262 ⟨rfl, by (subst ho2; first | with_reducible rfl | (simp [mf_goes, hp, cs_inc, row_id, oI, mR, wd_w_row, row_self, row_row, b1, b2, b6, b7, b8]; done) | (simp_all [mf_goes, hp, cs_inc, row_id, oI, mR, wd_w_row, row_self, row_row, b1, b2, b6, b7, b8]; done) | (simp only [wd_w_row, row_self, row_row, i32_add0] at *; simp [mf_goes, hp, cs_inc, row_id, oI, mR, wd_w_row, row_self, row_row, b1, b2, b6, b7, b8]; done))⟩
          · skip
            refine aw_aload_n (x := ad 14 0 0) rfl dX8_goesOn_226 ?_
            refine aw_iload_n (x := (nI l)) rfl dX8_goesOn_227 ?_
            refine aw_rV (As := [.int (nI l)]) (S := []) (v := none) (o2 := (wd_row o2 8 (mf_end (o2.1 8) m l e))) (ct_X8_ends Go2 hl (Or.inr ⟨he5, heo2⟩)) (mm_fit_of cbX8_ends (by decide) (by decide)) wq1033 cvX8_ends wv14 rfl rfl rfl (Nat.le_of_ble_eq_true rfl) (by decide) (by decide) rfl dX8_goesOn_228 ?_
            refine aw_goto (tgt := 262) (by decide) dX8_goesOn_231 ?_
            exact aw_vret rfl (by decide) (by decide) dX8_goesOn_262 ⟨rfl, by (subst ho2; first | with_reducible rfl | (simp [mf_goes, hp, cs_inc, row_id, oI, mR, wd_w_row, row_self, row_row, b1, b2, b6, b7, b8]; done) | (simp_all [mf_goes, hp, cs_inc, row_id, oI, mR, wd_w_row, row_self, row_row, b1, b2, b6, b7, b8]; done) | (simp only [wd_w_row, row_self, row_row, i32_add0] at *; simp [mf_goes, hp, cs_inc, row_id, oI, mR, wd_w_row, row_self, row_row, b1, b2, b6, b7, b8]; done))⟩
theorem ct_X8_goes_5 {ad : Nat → Nat → Nat → Nat} {o : wd_S} {n m : Nat} (G : cg (o.1 8) n m) {l f q e : Nat} (hl : l < 5) (hp : o.1 8 (20 * l + 1) = 5)  : CT ad MX8_goesOn [.ref (ad 14 0 0), .int (nI l)] o (RT none (wd_row o 8 (mf_goes (o.1 8) m l f q e))) := by
  obtain ⟨g1, g2, g3, g4, g5, g6⟩ := id G
  refine CT.of (L := [some (.ref (ad 14 0 0)), some (.int (nI l)), none, none]) rfl rfl (by decide) (Nat.le_of_ble_eq_true rfl) rfl ?_
  refine aw_aload_n (x := ad 14 0 0) rfl dX8_goesOn_0 ?_
  refine aw_iload_n (x := (nI l)) rfl dX8_goesOn_1 ?_
  refine aw_iconst (v := 1) (by decide) dX8_goesOn_2 ?_
  refine aw_rV (As := [.int (nI l), .int 1]) (S := []) (v := some (.int (o.1 8 (20 * l + 2)))) (o2 := o) (ct_X8_of (l := l) (w := 1) (by omega) (by decide)) (mm_fit_of cbX8_of (by decide) (by decide)) wq969 cvX8_of wv14 rfl rfl rfl (Nat.le_of_ble_eq_true rfl) (by decide) (by decide) rfl dX8_goesOn_3 ?_
  refine aw_istore_n (L2 := [some (.ref (ad 14 0 0)), some (.int (nI l)), some (.int (o.1 8 (20 * l + 2))), none]) (by decide) rfl rfl dX8_goesOn_6 ?_
  refine aw_aload_n (x := ad 14 0 0) rfl dX8_goesOn_7 ?_
  refine aw_iload_n (x := (nI l)) rfl dX8_goesOn_8 ?_
  refine aw_iconst (v := 2) (by decide) dX8_goesOn_9 ?_
  refine aw_rV (As := [.int (nI l), .int 2]) (S := []) (v := some (.int (o.1 8 (20 * l + 3)))) (o2 := o) (ct_X8_of (l := l) (w := 2) (by omega) (by decide)) (mm_fit_of cbX8_of (by decide) (by decide)) wq969 cvX8_of wv14 rfl rfl rfl (Nat.le_of_ble_eq_true rfl) (by decide) (by decide) rfl dX8_goesOn_10 ?_
  refine aw_istore_n (L2 := [some (.ref (ad 14 0 0)), some (.int (nI l)), some (.int (o.1 8 (20 * l + 2))), some (.int (o.1 8 (20 * l + 3)))]) (by decide) rfl rfl dX8_goesOn_13 ?_
  refine aw_aload_n (x := ad 14 0 0) rfl dX8_goesOn_14 ?_
  refine aw_iload_n (x := (nI l)) rfl dX8_goesOn_15 ?_
  refine aw_iconst (v := 0) (by decide) dX8_goesOn_16 ?_
  refine aw_rV (As := [.int (nI l), .int 0]) (S := []) (v := some (.int 5)) (o2 := o) (RTv (ct_X8_of (l := l) (w := 0) (by omega) (by decide)) hp) (mm_fit_of cbX8_of (by decide) (by decide)) wq969 cvX8_of wv14 rfl rfl rfl (Nat.le_of_ble_eq_true rfl) (by decide) (by decide) rfl dX8_goesOn_17 ?_
  refine aw_tableIn (off := 242) (tgt := 262) (by decide) (by decide) (by decide) (by decide) dX8_goesOn_20 ?_
  exact aw_vret rfl (by decide) (by decide) dX8_goesOn_262 ⟨rfl, by (first | with_reducible rfl | (simp [mf_goes, hp, cs_inc, row_id, oI, mR, wd_w_row, row_self, row_row]; done) | (simp_all [mf_goes, hp, cs_inc, row_id, oI, mR, wd_w_row, row_self, row_row]; done) | (simp only [wd_w_row, row_self, row_row, i32_add0] at *; simp [mf_goes, hp, cs_inc, row_id, oI, mR, wd_w_row, row_self, row_row]; done))⟩
theorem ct_X8_goes_6 {ad : Nat → Nat → Nat → Nat} {o : wd_S} {n m : Nat} (G : cg (o.1 8) n m) {l f q e : Nat} (hl : l < 5) (hp : o.1 8 (20 * l + 1) = 6)  : CT ad MX8_goesOn [.ref (ad 14 0 0), .int (nI l)] o (RT none (wd_row o 8 (mf_goes (o.1 8) m l f q e))) := by
  obtain ⟨g1, g2, g3, g4, g5, g6⟩ := id G
  refine CT.of (L := [some (.ref (ad 14 0 0)), some (.int (nI l)), none, none]) rfl rfl (by decide) (Nat.le_of_ble_eq_true rfl) rfl ?_
  refine aw_aload_n (x := ad 14 0 0) rfl dX8_goesOn_0 ?_
  refine aw_iload_n (x := (nI l)) rfl dX8_goesOn_1 ?_
  refine aw_iconst (v := 1) (by decide) dX8_goesOn_2 ?_
  refine aw_rV (As := [.int (nI l), .int 1]) (S := []) (v := some (.int (o.1 8 (20 * l + 2)))) (o2 := o) (ct_X8_of (l := l) (w := 1) (by omega) (by decide)) (mm_fit_of cbX8_of (by decide) (by decide)) wq969 cvX8_of wv14 rfl rfl rfl (Nat.le_of_ble_eq_true rfl) (by decide) (by decide) rfl dX8_goesOn_3 ?_
  refine aw_istore_n (L2 := [some (.ref (ad 14 0 0)), some (.int (nI l)), some (.int (o.1 8 (20 * l + 2))), none]) (by decide) rfl rfl dX8_goesOn_6 ?_
  refine aw_aload_n (x := ad 14 0 0) rfl dX8_goesOn_7 ?_
  refine aw_iload_n (x := (nI l)) rfl dX8_goesOn_8 ?_
  refine aw_iconst (v := 2) (by decide) dX8_goesOn_9 ?_
  refine aw_rV (As := [.int (nI l), .int 2]) (S := []) (v := some (.int (o.1 8 (20 * l + 3)))) (o2 := o) (ct_X8_of (l := l) (w := 2) (by omega) (by decide)) (mm_fit_of cbX8_of (by decide) (by decide)) wq969 cvX8_of wv14 rfl rfl rfl (Nat.le_of_ble_eq_true rfl) (by decide) (by decide) rfl dX8_goesOn_10 ?_
  refine aw_istore_n (L2 := [some (.ref (ad 14 0 0)), some (.int (nI l)), some (.int (o.1 8 (20 * l + 2))), some (.int (o.1 8 (20 * l + 3)))]) (by decide) rfl rfl dX8_goesOn_13 ?_
  refine aw_aload_n (x := ad 14 0 0) rfl dX8_goesOn_14 ?_
  refine aw_iload_n (x := (nI l)) rfl dX8_goesOn_15 ?_
  refine aw_iconst (v := 0) (by decide) dX8_goesOn_16 ?_
  refine aw_rV (As := [.int (nI l), .int 0]) (S := []) (v := some (.int 6)) (o2 := o) (RTv (ct_X8_of (l := l) (w := 0) (by omega) (by decide)) hp) (mm_fit_of cbX8_of (by decide) (by decide)) wq969 cvX8_of wv14 rfl rfl rfl (Nat.le_of_ble_eq_true rfl) (by decide) (by decide) rfl dX8_goesOn_17 ?_
  refine aw_tableIn (off := 242) (tgt := 262) (by decide) (by decide) (by decide) (by decide) dX8_goesOn_20 ?_
  exact aw_vret rfl (by decide) (by decide) dX8_goesOn_262 ⟨rfl, by (first | with_reducible rfl | (simp [mf_goes, hp, cs_inc, row_id, oI, mR, wd_w_row, row_self, row_row]; done) | (simp_all [mf_goes, hp, cs_inc, row_id, oI, mR, wd_w_row, row_self, row_row]; done) | (simp only [wd_w_row, row_self, row_row, i32_add0] at *; simp [mf_goes, hp, cs_inc, row_id, oI, mR, wd_w_row, row_self, row_row]; done))⟩
theorem ct_X8_goes_7 {ad : Nat → Nat → Nat → Nat} {o : wd_S} {n m : Nat} (G : cg (o.1 8) n m) {l f q e : Nat} (hl : l < 5) (hp : o.1 8 (20 * l + 1) = 7) (hf5 : f < m) (hf : o.1 8 (20 * l + 3) = nI f) (hq5 : q < m) (hq : o.1 8 (20 * l + 4) = nI q) : CT ad MX8_goesOn [.ref (ad 14 0 0), .int (nI l)] o (RT none (wd_row o 8 (mf_goes (o.1 8) m l f q e))) := by
  obtain ⟨g1, g2, g3, g4, g5, g6⟩ := id G
  refine CT.of (L := [some (.ref (ad 14 0 0)), some (.int (nI l)), none, none]) rfl rfl (by decide) (Nat.le_of_ble_eq_true rfl) rfl ?_
  refine aw_aload_n (x := ad 14 0 0) rfl dX8_goesOn_0 ?_
  refine aw_iload_n (x := (nI l)) rfl dX8_goesOn_1 ?_
  refine aw_iconst (v := 1) (by decide) dX8_goesOn_2 ?_
  refine aw_rV (As := [.int (nI l), .int 1]) (S := []) (v := some (.int (o.1 8 (20 * l + 2)))) (o2 := o) (ct_X8_of (l := l) (w := 1) (by omega) (by decide)) (mm_fit_of cbX8_of (by decide) (by decide)) wq969 cvX8_of wv14 rfl rfl rfl (Nat.le_of_ble_eq_true rfl) (by decide) (by decide) rfl dX8_goesOn_3 ?_
  refine aw_istore_n (L2 := [some (.ref (ad 14 0 0)), some (.int (nI l)), some (.int (o.1 8 (20 * l + 2))), none]) (by decide) rfl rfl dX8_goesOn_6 ?_
  refine aw_aload_n (x := ad 14 0 0) rfl dX8_goesOn_7 ?_
  refine aw_iload_n (x := (nI l)) rfl dX8_goesOn_8 ?_
  refine aw_iconst (v := 2) (by decide) dX8_goesOn_9 ?_
  refine aw_rV (As := [.int (nI l), .int 2]) (S := []) (v := some (.int (nI f))) (o2 := o) (RTv (ct_X8_of (l := l) (w := 2) (by omega) (by decide)) hf) (mm_fit_of cbX8_of (by decide) (by decide)) wq969 cvX8_of wv14 rfl rfl rfl (Nat.le_of_ble_eq_true rfl) (by decide) (by decide) rfl dX8_goesOn_10 ?_
  refine aw_istore_n (L2 := [some (.ref (ad 14 0 0)), some (.int (nI l)), some (.int (o.1 8 (20 * l + 2))), some (.int (nI f))]) (by decide) rfl rfl dX8_goesOn_13 ?_
  refine aw_aload_n (x := ad 14 0 0) rfl dX8_goesOn_14 ?_
  refine aw_iload_n (x := (nI l)) rfl dX8_goesOn_15 ?_
  refine aw_iconst (v := 0) (by decide) dX8_goesOn_16 ?_
  refine aw_rV (As := [.int (nI l), .int 0]) (S := []) (v := some (.int 7)) (o2 := o) (RTv (ct_X8_of (l := l) (w := 0) (by omega) (by decide)) hp) (mm_fit_of cbX8_of (by decide) (by decide)) wq969 cvX8_of wv14 rfl rfl rfl (Nat.le_of_ble_eq_true rfl) (by decide) (by decide) rfl dX8_goesOn_17 ?_
  refine aw_tableIn (off := 101) (tgt := 121) (by decide) (by decide) (by decide) (by decide) dX8_goesOn_20 ?_
  refine aw_iload_n (x := (o.1 8 (20 * l + 2))) rfl dX8_goesOn_121 ?_
  refine aw_iconst (v := 4) (by decide) dX8_goesOn_122 ?_
  refine aw_aload_n (x := ad 14 0 0) rfl dX8_goesOn_123 ?_
  refine aw_iload_n (x := (nI l)) rfl dX8_goesOn_124 ?_
  refine aw_rV (As := [.int (nI l)]) (S := [.int 4, .int (o.1 8 (20 * l + 2))]) (v := some (.int (tc_len ((o.1 8) (101 + 8 * f + 3)) + tc_len ((o.1 8) (101 + 8 * q + 3))))) (o2 := o) (ct_X8_both (e := 0) G hl hf5 hf hq5 hq) (mm_fit_of cbX8_bothLengths (by decide) (by decide)) wq1074 cvX8_bothLengths wv14 rfl rfl rfl (Nat.le_of_ble_eq_true rfl) (by decide) (by decide) rfl dX8_goesOn_125 ?_
  refine aw_imulz (z := 4 * (tc_len ((o.1 8) (101 + 8 * f + 3)) + tc_len ((o.1 8) (101 + 8 * q + 3)))) rfl dX8_goesOn_128 ?_
  refine aw_icmp_ne (tgt := 262) (by decide) dX8_goesOn_129 (fun b1 => ?_) (fun b1 => ?_)
  · skip
    exact aw_vret rfl (by decide) (by decide) dX8_goesOn_262 ⟨rfl, by (first | with_reducible rfl | (simp [mf_goes, hp, cs_inc, row_id, oI, mR, wd_w_row, row_self, row_row, b1]; done) | (simp_all [mf_goes, hp, cs_inc, row_id, oI, mR, wd_w_row, row_self, row_row, b1]; done) | (simp only [wd_w_row, row_self, row_row, i32_add0] at *; simp [mf_goes, hp, cs_inc, row_id, oI, mR, wd_w_row, row_self, row_row, b1]; done))⟩
  · skip
    refine aw_aload_n (x := ad 14 0 0) rfl dX8_goesOn_132 ?_
    refine aw_getr (q := (15, 0, 0)) wv14 rfl flX8_7 rfl rfl dX8_goesOn_133 ?_
    refine aw_sipush (v := 233) (by decide) dX8_goesOn_136 ?_
    refine aw_dup2 rfl rfl dX8_goesOn_139 ?_
    refine aw_ild (x := 233) (q := (8, 233)) (y := o.1 8 233) (by decide) (wv15 (by decide)) rfl rfl (Nat.le_of_ble_eq_true rfl) rfl dX8_goesOn_140 ?_
    refine aw_iconst (v := 1) (by decide) dX8_goesOn_141 ?_
    refine aw_iaddz (z := (o.1 8 233) + 1) rfl dX8_goesOn_142 ?_
    refine aw_ist (x := 233) (q := (8, 233)) (y := (o.1 8 233) + 1) (by decide) (wv15 (by decide)) rfl (Nat.le_of_ble_eq_true rfl) rfl dX8_goesOn_143 ?_
    refine aw_aload_n (x := ad 14 0 0) rfl dX8_goesOn_144 ?_
    refine aw_iload_n (x := (nI l)) rfl dX8_goesOn_145 ?_
    refine aw_iconst (v := 0) (by decide) dX8_goesOn_146 ?_
    refine aw_iconst (v := (-1)) (by decide) dX8_goesOn_147 ?_
    refine aw_iconst (v := (-1)) (by decide) dX8_goesOn_148 ?_
    refine aw_iconst (v := (-1)) (by decide) dX8_goesOn_149 ?_
    obtain ⟨o1, ho1⟩ : ∃ z, z = (wd_w o 8 233 ((o.1 8 233) + 1)) := ⟨_, rfl⟩
    rw [← ho1]
    have Go1 : cg (o1.1 8) n m := by rw [ho1]; simp only [wd_w_row, row_self]; exact cg_upd (G) (by omega) (by omega) (fun _ _ => ⟨by omega, by omega⟩)
    have hpo1 : o1.1 8 (20 * l + 1) = 7 := by rw [ho1]; simp only [wd_w_row, row_self]; rw [upd_ne _ _ (by omega)]; exact hp
    have hfo1 : o1.1 8 (20 * l + 3) = nI f := by rw [ho1]; simp only [wd_w_row, row_self]; rw [upd_ne _ _ (by omega)]; exact hf
    have hqo1 : o1.1 8 (20 * l + 4) = nI q := by rw [ho1]; simp only [wd_w_row, row_self]; rw [upd_ne _ _ (by omega)]; exact hq
    refine aw_rV (As := [.int (nI l), .int 0, .int (-1), .int (-1), .int (-1)]) (S := []) (v := none) (o2 := (wd_row o1 8 (mf_comes (o1.1 8) l 0 (-1) (-1) (-1)))) (ct_X8_comes (by omega)) (mm_fit_of cbX8_comes (by decide) (by decide)) wq1013 cvX8_comes wv14 rfl rfl rfl (Nat.le_of_ble_eq_true rfl) (by decide) (by decide) rfl dX8_goesOn_150 ?_
    obtain ⟨o2, ho2⟩ : ∃ z, z = (wd_row o1 8 (mf_comes (o1.1 8) l 0 (-1) (-1) (-1))) := ⟨_, rfl⟩
    rw [← ho2]
    have Go2 : cg (o2.1 8) n m := by rw [ho2]; rw [row_self]; exact cg_stl (stl_comes (by omega)) Go1
    refine aw_goto (tgt := 262) (by decide) dX8_goesOn_153 ?_
    exact aw_vret rfl (by decide) (by decide) dX8_goesOn_262 ⟨rfl, by (subst ho2; subst ho1; first | with_reducible rfl | (simp [mf_goes, hp, cs_inc, row_id, oI, mR, wd_w_row, row_self, row_row, b1]; done) | (simp_all [mf_goes, hp, cs_inc, row_id, oI, mR, wd_w_row, row_self, row_row, b1]; done) | (simp only [wd_w_row, row_self, row_row, i32_add0] at *; simp [mf_goes, hp, cs_inc, row_id, oI, mR, wd_w_row, row_self, row_row, b1]; done))⟩
theorem ct_X8_goes_8 {ad : Nat → Nat → Nat → Nat} {o : wd_S} {n m : Nat} (G : cg (o.1 8) n m) {l f q e : Nat} (hl : l < 5) (hp : o.1 8 (20 * l + 1) = 8) (he : o.1 8 (20 * l + 5) = -1) : CT ad MX8_goesOn [.ref (ad 14 0 0), .int (nI l)] o (RT none (wd_row o 8 (mf_goes (o.1 8) m l f q e))) := by
  obtain ⟨g1, g2, g3, g4, g5, g6⟩ := id G
  refine CT.of (L := [some (.ref (ad 14 0 0)), some (.int (nI l)), none, none]) rfl rfl (by decide) (Nat.le_of_ble_eq_true rfl) rfl ?_
  refine aw_aload_n (x := ad 14 0 0) rfl dX8_goesOn_0 ?_
  refine aw_iload_n (x := (nI l)) rfl dX8_goesOn_1 ?_
  refine aw_iconst (v := 1) (by decide) dX8_goesOn_2 ?_
  refine aw_rV (As := [.int (nI l), .int 1]) (S := []) (v := some (.int (o.1 8 (20 * l + 2)))) (o2 := o) (ct_X8_of (l := l) (w := 1) (by omega) (by decide)) (mm_fit_of cbX8_of (by decide) (by decide)) wq969 cvX8_of wv14 rfl rfl rfl (Nat.le_of_ble_eq_true rfl) (by decide) (by decide) rfl dX8_goesOn_3 ?_
  refine aw_istore_n (L2 := [some (.ref (ad 14 0 0)), some (.int (nI l)), some (.int (o.1 8 (20 * l + 2))), none]) (by decide) rfl rfl dX8_goesOn_6 ?_
  refine aw_aload_n (x := ad 14 0 0) rfl dX8_goesOn_7 ?_
  refine aw_iload_n (x := (nI l)) rfl dX8_goesOn_8 ?_
  refine aw_iconst (v := 2) (by decide) dX8_goesOn_9 ?_
  refine aw_rV (As := [.int (nI l), .int 2]) (S := []) (v := some (.int (o.1 8 (20 * l + 3)))) (o2 := o) (ct_X8_of (l := l) (w := 2) (by omega) (by decide)) (mm_fit_of cbX8_of (by decide) (by decide)) wq969 cvX8_of wv14 rfl rfl rfl (Nat.le_of_ble_eq_true rfl) (by decide) (by decide) rfl dX8_goesOn_10 ?_
  refine aw_istore_n (L2 := [some (.ref (ad 14 0 0)), some (.int (nI l)), some (.int (o.1 8 (20 * l + 2))), some (.int (o.1 8 (20 * l + 3)))]) (by decide) rfl rfl dX8_goesOn_13 ?_
  refine aw_aload_n (x := ad 14 0 0) rfl dX8_goesOn_14 ?_
  refine aw_iload_n (x := (nI l)) rfl dX8_goesOn_15 ?_
  refine aw_iconst (v := 0) (by decide) dX8_goesOn_16 ?_
  refine aw_rV (As := [.int (nI l), .int 0]) (S := []) (v := some (.int 8)) (o2 := o) (RTv (ct_X8_of (l := l) (w := 0) (by omega) (by decide)) hp) (mm_fit_of cbX8_of (by decide) (by decide)) wq969 cvX8_of wv14 rfl rfl rfl (Nat.le_of_ble_eq_true rfl) (by decide) (by decide) rfl dX8_goesOn_17 ?_
  refine aw_tableIn (off := 214) (tgt := 234) (by decide) (by decide) (by decide) (by decide) dX8_goesOn_20 ?_
  refine aw_iload_n (x := (o.1 8 (20 * l + 2))) rfl dX8_goesOn_234 ?_
  refine aw_aload_n (x := ad 14 0 0) rfl dX8_goesOn_235 ?_
  refine aw_getr (q := (15, 0, 0)) wv14 rfl flX8_7 rfl rfl dX8_goesOn_236 ?_
  refine aw_sipush (v := 230) (by decide) dX8_goesOn_239 ?_
  refine aw_ild (x := 230) (q := (8, 230)) (y := o.1 8 230) (by decide) (wv15 (by decide)) rfl rfl (Nat.le_of_ble_eq_true rfl) rfl dX8_goesOn_242 ?_
  refine aw_icmp_lt (tgt := 262) (by decide) dX8_goesOn_243 (fun b1 => ?_) (fun b1 => ?_)
  · skip
    exact aw_vret rfl (by decide) (by decide) dX8_goesOn_262 ⟨rfl, by (first | with_reducible rfl | (simp [mf_goes, hp, cs_inc, row_id, oI, mR, wd_w_row, row_self, row_row, b1]; done) | (simp_all [mf_goes, hp, cs_inc, row_id, oI, mR, wd_w_row, row_self, row_row, b1]; done) | (simp only [wd_w_row, row_self, row_row, i32_add0] at *; simp [mf_goes, hp, cs_inc, row_id, oI, mR, wd_w_row, row_self, row_row, b1]; done))⟩
  · skip
    refine aw_aload_n (x := ad 14 0 0) rfl dX8_goesOn_246 ?_
    refine aw_iload_n (x := (nI l)) rfl dX8_goesOn_247 ?_
    refine aw_rV (As := [.int (nI l)]) (S := []) (v := some (.int (orF (mf_lck (o.1 8) l) m 0))) (o2 := o) (ct_X8_isLocked G (by omega)) (mm_fit_of cbX8_isLocked (by decide) (by decide)) wq1078 cvX8_isLocked wv14 rfl rfl rfl (Nat.le_of_ble_eq_true rfl) (by decide) (by decide) rfl dX8_goesOn_248 ?_
    refine aw_if_eq (tgt := 262) (by decide) dX8_goesOn_251 (fun b2 => ?_) (fun b2 => ?_)
    · skip
      exact aw_vret rfl (by decide) (by decide) dX8_goesOn_262 ⟨rfl, by (first | with_reducible rfl | (simp [mf_goes, hp, cs_inc, row_id, oI, mR, wd_w_row, row_self, row_row, b1, b2]; done) | (simp_all [mf_goes, hp, cs_inc, row_id, oI, mR, wd_w_row, row_self, row_row, b1, b2]; done) | (simp only [wd_w_row, row_self, row_row, i32_add0] at *; simp [mf_goes, hp, cs_inc, row_id, oI, mR, wd_w_row, row_self, row_row, b1, b2]; done))⟩
    · skip
      refine aw_aload_n (x := ad 14 0 0) rfl dX8_goesOn_254 ?_
      refine aw_iload_n (x := (nI l)) rfl dX8_goesOn_255 ?_
      refine aw_rV (As := [.int (nI l)]) (S := []) (v := none) (o2 := (wd_row o 8 (mf_end (o.1 8) m l e))) (ct_X8_ends G hl (Or.inl he)) (mm_fit_of cbX8_ends (by decide) (by decide)) wq1033 cvX8_ends wv14 rfl rfl rfl (Nat.le_of_ble_eq_true rfl) (by decide) (by decide) rfl dX8_goesOn_256 ?_
      refine aw_goto (tgt := 262) (by decide) dX8_goesOn_259 ?_
      exact aw_vret rfl (by decide) (by decide) dX8_goesOn_262 ⟨rfl, by (first | with_reducible rfl | (simp [mf_goes, hp, cs_inc, row_id, oI, mR, wd_w_row, row_self, row_row, b1, b2]; done) | (simp_all [mf_goes, hp, cs_inc, row_id, oI, mR, wd_w_row, row_self, row_row, b1, b2]; done) | (simp only [wd_w_row, row_self, row_row, i32_add0] at *; simp [mf_goes, hp, cs_inc, row_id, oI, mR, wd_w_row, row_self, row_row, b1, b2]; done))⟩
