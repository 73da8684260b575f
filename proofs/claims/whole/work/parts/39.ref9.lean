/-! the reference: best codes, faults -/
def mf_asg (m l : Nat) : Nat → Nat → (Nat → Int32) → Nat → Int32
  | 0, _, N => N
  | k + 1, i, N => mf_asg m l k (i + 1) (if N (101 + 8 * i + 1) = nI l then upd N (101 + 8 * i + 3) (mm_bl (cntN (mf_ah N l i) m 0)) else N)
def mf_asn (m l : Nat) : Nat → Nat → (Nat → Int32) → Int32
  | 0, _, _ => 0
  | k + 1, i, N => (if N (101 + 8 * i + 1) = nI l then (if mm_bl (cntN (mf_ah N l i) m 0) ≠ N (101 + 8 * i + 3) then 1 else 0) else 0) + mf_asn m l k (i + 1) (if N (101 + 8 * i + 1) = nI l then upd N (101 + 8 * i + 3) (mm_bl (cntN (mf_ah N l i) m 0)) else N)
theorem mah_code (N : Nat → Int32) (l t i : Nat) (v : Int32) : mf_ah (upd N (101 + 8 * i + 3) v) l t = mf_ah N l t := by
  funext x
  have e1 : upd N (101 + 8 * i + 3) v (101 + 8 * x + 1) = N (101 + 8 * x + 1) := upd_ne _ _ (by omega)
  have e2 : upd N (101 + 8 * i + 3) v (101 + 8 * x + 5) = N (101 + 8 * x + 5) := upd_ne _ _ (by omega)
  have e3 : upd N (101 + 8 * i + 3) v (101 + 8 * t + 5) = N (101 + 8 * t + 5) := upd_ne _ _ (by omega)
  rw [Bool.eq_iff_iff]
  simp [mf_ah, mf_bf, e1, e2, e3]
theorem lp_X8_asg {ad : Nat → Nat → Nat → Nat} {n m l : Nat} (hl : l < 5) : ∀ (k i : Nat) (o : wd_S) (a : Int32), i + k = m → (cg (o.1 8) n m) → (∀ i, i < m → o.1 8 (101 + 8 * i + 1) = nI l → cntN (mf_ah (o.1 8) l i) m 0 < 14) → AW ad MX8_assignCodes 45 [some (.ref (ad 14 0 0)), some (.int (nI l)), none, some (.int a), some (.int (nI i)), none] [] o 0 0 (RT (some (.int (a + mf_asn m l (k) (i) (o.1 8)))) (wd_row o 8 (mf_asg m l (k) (i) (o.1 8)))) := by
  intro k
  induction k with
  | zero =>
    intro i o a hk G hr
    have g4 := G.2.2.2.1
    refine aw_iload (x := (nI i)) rfl dX8_assignCodes_45 ?_
    refine aw_aload_n (x := ad 14 0 0) rfl dX8_assignCodes_47 ?_
    refine aw_getr (q := (15, 0, 0)) wv14 rfl flX8_7 rfl rfl dX8_assignCodes_48 ?_
    refine aw_bipush (v := 101) (by decide) dX8_assignCodes_51 ?_
    refine aw_ild (x := 101) (q := (8, 101)) (y := nI m) (by decide) (wv15 (by decide)) rfl G.2.2.1 (Nat.le_of_ble_eq_true rfl) rfl dX8_assignCodes_53 ?_
    refine aw_icmp_ge (tgt := 114) (by decide) dX8_assignCodes_54 (fun _ => ?_) (fun z => absurd (nI_le (by omega) (by omega)) z)
    refine aw_iload_n (x := a) rfl dX8_assignCodes_114 ?_
    exact aw_iret rfl (by decide) (by decide) dX8_assignCodes_115 ⟨by first | rfl | (simp [mf_asn, mf_asg, row_id, mem]; done) | (simp_all [mf_asn, mf_asg, row_id, mem]; done), by first | rfl | (simp [mf_asn, mf_asg, row_id, mem]; done) | (simp_all [mf_asn, mf_asg, row_id, mem]; done)⟩
  | succ k ih =>
    intro i o a hk G hr
    have g4 := G.2.2.2.1
    refine aw_iload (x := (nI i)) rfl dX8_assignCodes_45 ?_
    refine aw_aload_n (x := ad 14 0 0) rfl dX8_assignCodes_47 ?_
    refine aw_getr (q := (15, 0, 0)) wv14 rfl flX8_7 rfl rfl dX8_assignCodes_48 ?_
    refine aw_bipush (v := 101) (by decide) dX8_assignCodes_51 ?_
    refine aw_ild (x := 101) (q := (8, 101)) (y := nI m) (by decide) (wv15 (by decide)) rfl G.2.2.1 (Nat.le_of_ble_eq_true rfl) rfl dX8_assignCodes_53 ?_
    refine aw_icmp_ge (tgt := 114) (by decide) dX8_assignCodes_54 (fun z => absurd z (nI_ge (by omega) (by omega))) (fun _ => ?_)
    refine aw_aload_n (x := ad 14 0 0) rfl dX8_assignCodes_57 ?_
    refine aw_iload (x := (nI i)) rfl dX8_assignCodes_58 ?_
    refine aw_iconst (v := 0) (by decide) dX8_assignCodes_60 ?_
    refine aw_rV (As := [.int (nI i), .int 0]) (S := []) (v := some (.int (o.1 8 (101 + 8 * i + 1)))) (o2 := o) (ct_X8_its (s := i) (w := 0) (by omega) (by decide)) (mm_fit_of cbX8_its (by decide) (by decide)) wq949 cvX8_its wv14 rfl rfl rfl (Nat.le_of_ble_eq_true rfl) (by decide) (by decide) rfl dX8_assignCodes_61 ?_
    refine aw_iload_n (x := (nI l)) rfl dX8_assignCodes_64 ?_
    refine aw_icmp_ne (tgt := 108) (by decide) dX8_assignCodes_65 (fun b1 => ?_) (fun b1 => ?_)
    · skip
      refine aw_iinc (n := 1) (x := (nI i)) (v := nI (i + 1)) (L2 := [some (.ref (ad 14 0 0)), some (.int (nI l)), none, some (.int a), some (.int (nI (i + 1))), none]) rfl (nI_1 i) (by decide) rfl rfl dX8_assignCodes_108 ?_
      refine aw_goto (tgt := 45) (by decide) dX8_assignCodes_111 ?_
      have e9 : (RT (some (.int (a + mf_asn m l (k + 1) (i) (o.1 8)))) (wd_row o 8 (mf_asg m l (k + 1) (i) (o.1 8)))) = (RT (some (.int (a + mf_asn m l (k) (i + 1) (o.1 8)))) (wd_row o 8 (mf_asg m l (k) (i + 1) (o.1 8)))) := by first | (simp [mf_asn, mf_asg, wd_w_row, row_self, row_row, sumF_acc, mem, b1]; done) | (simp_all [mf_asn, mf_asg, wd_w_row, row_self, row_row, sumF_acc, mem, b1]; done)
      rw [e9]
      exact AW.locs (ih (i + 1) o a (by omega) (by (try simp only [wd_w_row, row_self]); first | exact cg_code G (hr i (by omega) (by assumption)) | exact G) (by (try simp only [wd_w_row, row_self]); first | (intro i2 hi2 hh2; rw [mah_code]; exact hr i2 hi2 (by rwa [upd_ne _ _ (by omega)] at hh2)) | exact hr)) (lsub_keep (lsub_keep (lsub_keep (lsub_keep (lsub_keep (lsub_keep lsub_nil))))))
    · skip
      refine aw_aload_n (x := ad 14 0 0) rfl dX8_assignCodes_68 ?_
      refine aw_iload (x := (nI i)) rfl dX8_assignCodes_69 ?_
      refine aw_rV (As := [.int (nI i)]) (S := []) (v := some (.int (nI (cntN (mf_ah (o.1 8) l i) m 0)))) (o2 := o) (ct_X8_placeOf G hl (by omega) b1) (mm_fit_of cbX8_placeOf (by decide) (by decide)) wq1124 cvX8_placeOf wv14 rfl rfl rfl (Nat.le_of_ble_eq_true rfl) (by decide) (by decide) rfl dX8_assignCodes_71 ?_
      refine aw_rS (As := [.int (nI (cntN (mf_ah (o.1 8) l i) m 0))]) (S := []) (v := some (.int (mm_bl (cntN (mf_ah (o.1 8) l i) m 0)))) (o2 := o) (ct_X8_codeAt (hr i (by omega) b1)) (mm_fit_of cbX8_codeAt (by decide) (by decide)) wq1128 wq1129 rfl rfl (Nat.le_of_ble_eq_true rfl) (by decide) (by decide) rfl dX8_assignCodes_74 ?_
      refine aw_istore (L2 := [some (.ref (ad 14 0 0)), some (.int (nI l)), none, some (.int a), some (.int (nI i)), some (.int (mm_bl (cntN (mf_ah (o.1 8) l i) m 0)))]) (by decide) rfl rfl dX8_assignCodes_77 ?_
      refine aw_iload_n (x := a) rfl dX8_assignCodes_79 ?_
      refine aw_iload (x := (mm_bl (cntN (mf_ah (o.1 8) l i) m 0))) rfl dX8_assignCodes_80 ?_
      refine aw_aload_n (x := ad 14 0 0) rfl dX8_assignCodes_82 ?_
      refine aw_iload (x := (nI i)) rfl dX8_assignCodes_83 ?_
      refine aw_iconst (v := 2) (by decide) dX8_assignCodes_85 ?_
      refine aw_rV (As := [.int (nI i), .int 2]) (S := [.int (mm_bl (cntN (mf_ah (o.1 8) l i) m 0)), .int a]) (v := some (.int (o.1 8 (101 + 8 * i + 3)))) (o2 := o) (ct_X8_its (s := i) (w := 2) (by omega) (by decide)) (mm_fit_of cbX8_its (by decide) (by decide)) wq949 cvX8_its wv14 rfl rfl rfl (Nat.le_of_ble_eq_true rfl) (by decide) (by decide) rfl dX8_assignCodes_86 ?_
      refine aw_icmp_ne (tgt := 96) (by decide) dX8_assignCodes_89 (fun b2 => ?_) (fun b2 => ?_)
      · skip
        refine aw_iconst (v := 1) (by decide) dX8_assignCodes_96 ?_
        refine aw_iaddz (z := a + 1) rfl dX8_assignCodes_97 ?_
        refine aw_istore_n (L2 := [some (.ref (ad 14 0 0)), some (.int (nI l)), none, some (.int (a + 1)), some (.int (nI i)), some (.int (mm_bl (cntN (mf_ah (o.1 8) l i) m 0)))]) (by decide) rfl rfl dX8_assignCodes_98 ?_
        refine aw_aload_n (x := ad 14 0 0) rfl dX8_assignCodes_99 ?_
        refine aw_iload (x := (nI i)) rfl dX8_assignCodes_100 ?_
        refine aw_iconst (v := 2) (by decide) dX8_assignCodes_102 ?_
        refine aw_iload (x := (mm_bl (cntN (mf_ah (o.1 8) l i) m 0))) rfl dX8_assignCodes_103 ?_
        refine aw_rV (As := [.int (nI i), .int 2, .int (mm_bl (cntN (mf_ah (o.1 8) l i) m 0))]) (S := []) (v := none) (o2 := (wd_w o 8 (101 + 8 * i + 3) (mm_bl (cntN (mf_ah (o.1 8) l i) m 0)))) (ct_X8_give (s := i) (w := 2) (by omega) (by decide)) (mm_fit_of cbX8_give (by decide) (by decide)) wq953 cvX8_give wv14 rfl rfl rfl (Nat.le_of_ble_eq_true rfl) (by decide) (by decide) rfl dX8_assignCodes_105 ?_
        refine aw_iinc (n := 1) (x := (nI i)) (v := nI (i + 1)) (L2 := [some (.ref (ad 14 0 0)), some (.int (nI l)), none, some (.int (a + 1)), some (.int (nI (i + 1))), some (.int (mm_bl (cntN (mf_ah (o.1 8) l i) m 0)))]) rfl (nI_1 i) (by decide) rfl rfl dX8_assignCodes_108 ?_
        refine aw_goto (tgt := 45) (by decide) dX8_assignCodes_111 ?_
        have e9 : (RT (some (.int (a + mf_asn m l (k + 1) (i) (o.1 8)))) (wd_row o 8 (mf_asg m l (k + 1) (i) (o.1 8)))) = (RT (some (.int ((a + 1) + mf_asn m l (k) (i + 1) ((wd_w o 8 (101 + 8 * i + 3) (mm_bl (cntN (mf_ah (o.1 8) l i) m 0))).1 8)))) (wd_row (wd_w o 8 (101 + 8 * i + 3) (mm_bl (cntN (mf_ah (o.1 8) l i) m 0))) 8 (mf_asg m l (k) (i + 1) ((wd_w o 8 (101 + 8 * i + 3) (mm_bl (cntN (mf_ah (o.1 8) l i) m 0))).1 8)))) := by first | (simp [mf_asn, mf_asg, wd_w_row, row_self, row_row, sumF_acc, mem, b1, b2]; done) | (simp_all [mf_asn, mf_asg, wd_w_row, row_self, row_row, sumF_acc, mem, b1, b2]; done)
        rw [e9]
        exact AW.locs (ih (i + 1) (wd_w o 8 (101 + 8 * i + 3) (mm_bl (cntN (mf_ah (o.1 8) l i) m 0))) (a + 1) (by omega) (by (try simp only [wd_w_row, row_self]); first | exact cg_code G (hr i (by omega) (by assumption)) | exact G) (by (try simp only [wd_w_row, row_self]); first | (intro i2 hi2 hh2; rw [mah_code]; exact hr i2 hi2 (by rwa [upd_ne _ _ (by omega)] at hh2)) | exact hr)) (lsub_keep (lsub_keep (lsub_keep (lsub_keep (lsub_keep (lsub_none lsub_nil))))))
      · skip
        refine aw_iconst (v := 0) (by decide) dX8_assignCodes_92 ?_
        refine aw_goto (tgt := 97) (by decide) dX8_assignCodes_93 ?_
        refine aw_iaddz (z := a + 0) rfl dX8_assignCodes_97 ?_
        refine aw_istore_n (L2 := [some (.ref (ad 14 0 0)), some (.int (nI l)), none, some (.int (a + 0)), some (.int (nI i)), some (.int (mm_bl (cntN (mf_ah (o.1 8) l i) m 0)))]) (by decide) rfl rfl dX8_assignCodes_98 ?_
        refine aw_aload_n (x := ad 14 0 0) rfl dX8_assignCodes_99 ?_
        refine aw_iload (x := (nI i)) rfl dX8_assignCodes_100 ?_
        refine aw_iconst (v := 2) (by decide) dX8_assignCodes_102 ?_
        refine aw_iload (x := (mm_bl (cntN (mf_ah (o.1 8) l i) m 0))) rfl dX8_assignCodes_103 ?_
        refine aw_rV (As := [.int (nI i), .int 2, .int (mm_bl (cntN (mf_ah (o.1 8) l i) m 0))]) (S := []) (v := none) (o2 := (wd_w o 8 (101 + 8 * i + 3) (mm_bl (cntN (mf_ah (o.1 8) l i) m 0)))) (ct_X8_give (s := i) (w := 2) (by omega) (by decide)) (mm_fit_of cbX8_give (by decide) (by decide)) wq953 cvX8_give wv14 rfl rfl rfl (Nat.le_of_ble_eq_true rfl) (by decide) (by decide) rfl dX8_assignCodes_105 ?_
        refine aw_iinc (n := 1) (x := (nI i)) (v := nI (i + 1)) (L2 := [some (.ref (ad 14 0 0)), some (.int (nI l)), none, some (.int (a + 0)), some (.int (nI (i + 1))), some (.int (mm_bl (cntN (mf_ah (o.1 8) l i) m 0)))]) rfl (nI_1 i) (by decide) rfl rfl dX8_assignCodes_108 ?_
        refine aw_goto (tgt := 45) (by decide) dX8_assignCodes_111 ?_
        have e9 : (RT (some (.int (a + mf_asn m l (k + 1) (i) (o.1 8)))) (wd_row o 8 (mf_asg m l (k + 1) (i) (o.1 8)))) = (RT (some (.int ((a + 0) + mf_asn m l (k) (i + 1) ((wd_w o 8 (101 + 8 * i + 3) (mm_bl (cntN (mf_ah (o.1 8) l i) m 0))).1 8)))) (wd_row (wd_w o 8 (101 + 8 * i + 3) (mm_bl (cntN (mf_ah (o.1 8) l i) m 0))) 8 (mf_asg m l (k) (i + 1) ((wd_w o 8 (101 + 8 * i + 3) (mm_bl (cntN (mf_ah (o.1 8) l i) m 0))).1 8)))) := by first | (simp [mf_asn, mf_asg, wd_w_row, row_self, row_row, sumF_acc, mem, b1, b2]; done) | (simp_all [mf_asn, mf_asg, wd_w_row, row_self, row_row, sumF_acc, mem, b1, b2]; done)
        rw [e9]
        exact AW.locs (ih (i + 1) (wd_w o 8 (101 + 8 * i + 3) (mm_bl (cntN (mf_ah (o.1 8) l i) m 0))) (a + 0) (by omega) (by (try simp only [wd_w_row, row_self]); first | exact cg_code G (hr i (by omega) (by assumption)) | exact G) (by (try simp only [wd_w_row, row_self]); first | (intro i2 hi2 hh2; rw [mah_code]; exact hr i2 hi2 (by rwa [upd_ne _ _ (by omega)] at hh2)) | exact hr)) (lsub_keep (lsub_keep (lsub_keep (lsub_keep (lsub_keep (lsub_none lsub_nil))))))
def rf_assign (o : wd_S) (n m c : Nat) (x : Int32) : Out := match lk n x with
  | none => mR 1 o
  | some l => if mf_rung (o.1 8) l = 0 then oI (mf_asn m l m 0 (o.1 8)) (wd_row (mS o c) 8 (mf_asg m l m 0 (o.1 8))) else mR 2 o
theorem rt_assign {ad : Nat → Nat → Nat → Nat} {o : wd_S} {n m c : Nat} (V : mv o n m c) (hr : ∀ l i, i < m → o.1 8 (101 + 8 * i + 1) = nI l → cntN (mf_ah (o.1 8) l i) m 0 < 14) {x : Int32} : CT ad MX8_assignCodes [.ref (ad 14 0 0), .int x] o (OT (rf_assign o n m c x)) := by
  obtain ⟨G, hk, hc⟩ := id V
  obtain ⟨g1, g2, g3, g4, g5, g6⟩ := id G
  refine CT.of (L := [some (.ref (ad 14 0 0)), some (.int x), none, none, none, none]) rfl rfl (by decide) (Nat.le_of_ble_eq_true rfl) rfl ?_
  refine aw_aload_n (x := ad 14 0 0) rfl dX8_assignCodes_0 ?_
  refine aw_iload_n (x := x) rfl dX8_assignCodes_1 ?_
  rcases k1 : lk n x with _ | l
  · skip
    refine aw_rV (As := [.int x]) (S := []) (v := some (.int 0)) (o2 := o) (ct_X8_isLoop_none G k1) (mm_fit_of cbX8_isLoop (by decide) (by decide)) wq941 cvX8_isLoop wv14 rfl rfl rfl (Nat.le_of_ble_eq_true rfl) (by decide) (by decide) rfl dX8_assignCodes_2 ?_
    refine aw_istore_n (L2 := [some (.ref (ad 14 0 0)), some (.int x), some (.int 0), none, none, none]) (by decide) rfl rfl dX8_assignCodes_5 ?_
    refine aw_aload_n (x := ad 14 0 0) rfl dX8_assignCodes_6 ?_
    refine aw_iload_n (x := 0) rfl dX8_assignCodes_7 ?_
    refine aw_if_ne (tgt := 15) (by decide) dX8_assignCodes_8 (fun z => absurd z (by decide)) (fun _ => ?_)
    refine aw_iconst (v := 1) (by decide) dX8_assignCodes_11 ?_
    refine aw_goto (tgt := 28) (by decide) dX8_assignCodes_12 ?_
    refine aw_rV (As := [.int 1]) (S := []) (v := some (.int 1)) (o2 := (wd_w o 12 1 1)) (ct_refused_p (by decide)) (mm_fit_of cbX8_refused (by decide) (by decide)) wq922 cvX8_refused wv14 rfl rfl rfl (Nat.le_of_ble_eq_true rfl) (by decide) (by decide) rfl dX8_assignCodes_28 ?_
    obtain ⟨o1, ho1⟩ : ∃ z, z = (wd_w o 12 1 1) := ⟨_, rfl⟩
    rw [← ho1]
    have Go1 : cg (o1.1 8) n m := by rw [ho1]; rw [wd_w_row, row_ne _ _ (by decide)]; exact G
    refine aw_if_eq (tgt := 36) (by decide) dX8_assignCodes_31 (fun z => absurd z (by decide)) (fun _ => ?_)
    refine aw_iconst (v := 0) (by decide) dX8_assignCodes_34 ?_
    exact aw_iret rfl (by decide) (by decide) dX8_assignCodes_35 ⟨by (subst ho1; first | with_reducible rfl | (simp [rf_assign, mS, mS_8, oI, mR, oI, mR, wd_w_row, row_self, row_row, k1]; done) | (simp_all [rf_assign, mS, mS_8, oI, mR, oI, mR, wd_w_row, row_self, row_row, k1]; done) | (simp only [wd_w_row, row_self, row_row, i32_add0, row_ne _ _ (show (8 : Nat) ≠ 12 by decide)] at *; simp [rf_assign, mS, mS_8, oI, mR, oI, mR, wd_w_row, row_self, row_row, k1]; done)), by (subst ho1; first | with_reducible rfl | (simp [rf_assign, mS, mS_8, oI, mR, oI, mR, wd_w_row, row_self, row_row, k1]; done) | (simp_all [rf_assign, mS, mS_8, oI, mR, oI, mR, wd_w_row, row_self, row_row, k1]; done) | (simp only [wd_w_row, row_self, row_row, i32_add0, row_ne _ _ (show (8 : Nat) ≠ 12 by decide)] at *; simp [rf_assign, mS, mS_8, oI, mR, oI, mR, wd_w_row, row_self, row_row, k1]; done))⟩
  · skip
    obtain ⟨rfl, k1l⟩ := lk_some k1
    have k1b : l < 5 := by omega
    refine aw_rV (As := [.int (nI l)]) (S := []) (v := some (.int 1)) (o2 := o) (ct_X8_isLoop_some G k1) (mm_fit_of cbX8_isLoop (by decide) (by decide)) wq941 cvX8_isLoop wv14 rfl rfl rfl (Nat.le_of_ble_eq_true rfl) (by decide) (by decide) rfl dX8_assignCodes_2 ?_
    refine aw_istore_n (L2 := [some (.ref (ad 14 0 0)), some (.int (nI l)), some (.int 1), none, none, none]) (by decide) rfl rfl dX8_assignCodes_5 ?_
    refine aw_aload_n (x := ad 14 0 0) rfl dX8_assignCodes_6 ?_
    refine aw_iload_n (x := 1) rfl dX8_assignCodes_7 ?_
    refine aw_if_ne (tgt := 15) (by decide) dX8_assignCodes_8 (fun _ => ?_) (fun z => absurd z (by decide))
    refine aw_aload_n (x := ad 14 0 0) rfl dX8_assignCodes_15 ?_
    refine aw_iload_n (x := (nI l)) rfl dX8_assignCodes_16 ?_
    refine aw_rV (As := [.int (nI l)]) (S := [.ref (ad 14 0 0)]) (v := some (.int (mf_rung (o.1 8) l))) (o2 := o) (ct_X8_isRung G (by omega)) (mm_fit_of cbX8_isRung (by decide) (by decide)) wq965 cvX8_isRung wv14 rfl rfl rfl (Nat.le_of_ble_eq_true rfl) (by decide) (by decide) rfl dX8_assignCodes_17 ?_
    refine aw_if_eq (tgt := 27) (by decide) dX8_assignCodes_20 (fun b2 => ?_) (fun b2 => ?_)
    · skip
      refine aw_iconst (v := 0) (by decide) dX8_assignCodes_27 ?_
      refine aw_rV (As := [.int 0]) (S := []) (v := some (.int 0)) (o2 := (wd_w o 12 1 0)) (ct_refused_0) (mm_fit_of cbX8_refused (by decide) (by decide)) wq922 cvX8_refused wv14 rfl rfl rfl (Nat.le_of_ble_eq_true rfl) (by decide) (by decide) rfl dX8_assignCodes_28 ?_
      obtain ⟨o2, ho2⟩ : ∃ z, z = (wd_w o 12 1 0) := ⟨_, rfl⟩
      rw [← ho2]
      have Go2 : cg (o2.1 8) n m := by rw [ho2]; rw [wd_w_row, row_ne _ _ (by decide)]; exact G
      refine aw_if_eq (tgt := 36) (by decide) dX8_assignCodes_31 (fun _ => ?_) (fun z => absurd z (by decide))
      refine aw_aload_n (x := ad 14 0 0) rfl dX8_assignCodes_36 ?_
      refine aw_rV (As := []) (S := []) (v := none) (o2 := (ms_sv o2 c)) (ct_X8_saves (by rw [ho2, wd_get, if_neg (by decide)]; exact hk) hc) (mm_fit_of cbX8_saves (by decide) (by decide)) wq930 cvX8_saves wv14 rfl rfl rfl (Nat.le_of_ble_eq_true rfl) (by decide) (by decide) rfl dX8_assignCodes_37 ?_
      obtain ⟨o3, ho3⟩ : ∃ z, z = (ms_sv o2 c) := ⟨_, rfl⟩
      rw [← ho3]
      have Go3 : cg (o3.1 8) n m := by rw [ho3]; rw [msv_ne (by decide) (by decide)]; exact Go2
      refine aw_iconst (v := 0) (by decide) dX8_assignCodes_40 ?_
      refine aw_istore_n (L2 := [some (.ref (ad 14 0 0)), some (.int (nI l)), some (.int 1), some (.int 0), none, none]) (by decide) rfl rfl dX8_assignCodes_41 ?_
      refine aw_iconst (v := 0) (by decide) dX8_assignCodes_42 ?_
      refine aw_istore (L2 := [some (.ref (ad 14 0 0)), some (.int (nI l)), some (.int 1), some (.int 0), some (.int 0), none]) (by decide) rfl rfl dX8_assignCodes_43 ?_
      have E8 : o3.1 8 = o.1 8 := by rw [ho3]; rw [msv_ne (by decide) (by decide)]; rw [ho2]; rw [wd_w_row, row_ne _ _ (by decide)]
      refine AW.post (AW.locs (lp_X8_asg (by omega) m 0 o3 0 (by omega) Go3 (by rw [E8]; exact hr l)) (lsub_keep (lsub_keep (lsub_none (lsub_keep (lsub_keep (lsub_keep lsub_nil))))))) (fun r o2 q => ?_)
      rw [E8] at q
      subst ho3; subst ho2; simpa [rf_assign, mS, k1, b2, OT, oI, RT] using q
    · skip
      refine aw_iconst (v := 2) (by decide) dX8_assignCodes_23 ?_
      refine aw_goto (tgt := 28) (by decide) dX8_assignCodes_24 ?_
      refine aw_rV (As := [.int 2]) (S := []) (v := some (.int 1)) (o2 := (wd_w o 12 1 2)) (ct_refused_p (by decide)) (mm_fit_of cbX8_refused (by decide) (by decide)) wq922 cvX8_refused wv14 rfl rfl rfl (Nat.le_of_ble_eq_true rfl) (by decide) (by decide) rfl dX8_assignCodes_28 ?_
      obtain ⟨o4, ho4⟩ : ∃ z, z = (wd_w o 12 1 2) := ⟨_, rfl⟩
      rw [← ho4]
      have Go4 : cg (o4.1 8) n m := by rw [ho4]; rw [wd_w_row, row_ne _ _ (by decide)]; exact G
      refine aw_if_eq (tgt := 36) (by decide) dX8_assignCodes_31 (fun z => absurd z (by decide)) (fun _ => ?_)
      refine aw_iconst (v := 0) (by decide) dX8_assignCodes_34 ?_
      exact aw_iret rfl (by decide) (by decide) dX8_assignCodes_35 ⟨by (subst ho4; first | with_reducible rfl | (simp [rf_assign, mS, mS_8, oI, mR, oI, mR, wd_w_row, row_self, row_row, k1, b2]; done) | (simp_all [rf_assign, mS, mS_8, oI, mR, oI, mR, wd_w_row, row_self, row_row, k1, b2]; done) | (simp only [wd_w_row, row_self, row_row, i32_add0, row_ne _ _ (show (8 : Nat) ≠ 12 by decide)] at *; simp [rf_assign, mS, mS_8, oI, mR, oI, mR, wd_w_row, row_self, row_row, k1, b2]; done)), by (subst ho4; first | with_reducible rfl | (simp [rf_assign, mS, mS_8, oI, mR, oI, mR, wd_w_row, row_self, row_row, k1, b2]; done) | (simp_all [rf_assign, mS, mS_8, oI, mR, oI, mR, wd_w_row, row_self, row_row, k1, b2]; done) | (simp only [wd_w_row, row_self, row_row, i32_add0, row_ne _ _ (show (8 : Nat) ≠ 12 by decide)] at *; simp [rf_assign, mS, mS_8, oI, mR, oI, mR, wd_w_row, row_self, row_row, k1, b2]; done))⟩
def mf_fl (l : Nat) : Nat → Nat → (Nat → Int32) → Nat → Int32
  | 0, _, N => N
  | k + 1, i, N => mf_fl l k (i + 1) (if N (101 + 8 * i + 1) = nI l then (if mf_cut N l i = 0 then N else upd N (101 + 8 * i + 7) 0) else N)
def mf_fn (l : Nat) : Nat → Nat → (Nat → Int32) → Int32
  | 0, _, _ => 0
  | k + 1, i, N => (if N (101 + 8 * i + 1) = nI l then (if mf_cut N l i = 0 then 0 else 1) else 0) + mf_fn l k (i + 1) (if N (101 + 8 * i + 1) = nI l then (if mf_cut N l i = 0 then N else upd N (101 + 8 * i + 7) 0) else N)
def mf_fault (N : Nat → Int32) (m l e : Nat) (k b : Int32) : Nat → Int32 := mf_end (upd (upd N (20 * l + 7) k) (20 * l + 8) b) m l e
def rf_fault (o : wd_S) (n m c : Nat) (x k b : Int32) : Out := match lk n x with
  | none => mR 1 o
  | some l => if cs_span k = 0 then mR 1 o else if o.1 8 (20 * l + 7) = -1 then oI (mf_fn l m 0 (mf_fault (o.1 8) m l (nt (o.1 8 (20 * l + 5))) k b)) (wd_row (mS o c) 8 (mf_fl l m 0 (mf_fault (o.1 8) m l (nt (o.1 8 (20 * l + 5))) k b))) else mR 2 o
theorem lp_X8_fl {ad : Nat → Nat → Nat → Nat} {n m l : Nat} (hl : l < 5) : ∀ (k i : Nat) (o : wd_S) (a : Int32), i + k = m → (cg (o.1 8) n m) → AW ad MX8_fault 98 [some (.ref (ad 14 0 0)), some (.int (nI l)), none, none, none, some (.int a), some (.int (nI i))] [] o 0 0 (RT (some (.int (a + mf_fn l (k) (i) (o.1 8)))) (wd_row o 8 (mf_fl l (k) (i) (o.1 8)))) := by
  intro k
  induction k with
  | zero =>
    intro i o a hk G
    have g4 := G.2.2.2.1
    refine aw_iload (x := (nI i)) rfl dX8_fault_98 ?_
    refine aw_aload_n (x := ad 14 0 0) rfl dX8_fault_100 ?_
    refine aw_getr (q := (15, 0, 0)) wv14 rfl flX8_7 rfl rfl dX8_fault_101 ?_
    refine aw_bipush (v := 101) (by decide) dX8_fault_104 ?_
    refine aw_ild (x := 101) (q := (8, 101)) (y := nI m) (by decide) (wv15 (by decide)) rfl G.2.2.1 (Nat.le_of_ble_eq_true rfl) rfl dX8_fault_106 ?_
    refine aw_icmp_ge (tgt := 148) (by decide) dX8_fault_107 (fun _ => ?_) (fun z => absurd (nI_le (by omega) (by omega)) z)
    refine aw_iload (x := a) rfl dX8_fault_148 ?_
    exact aw_iret rfl (by decide) (by decide) dX8_fault_150 ⟨by first | rfl | (simp [mf_fn, mf_fl, row_id, mem]; done) | (simp_all [mf_fn, mf_fl, row_id, mem]; done), by first | rfl | (simp [mf_fn, mf_fl, row_id, mem]; done) | (simp_all [mf_fn, mf_fl, row_id, mem]; done)⟩
  | succ k ih =>
    intro i o a hk G
    have g4 := G.2.2.2.1
    refine aw_iload (x := (nI i)) rfl dX8_fault_98 ?_
    refine aw_aload_n (x := ad 14 0 0) rfl dX8_fault_100 ?_
    refine aw_getr (q := (15, 0, 0)) wv14 rfl flX8_7 rfl rfl dX8_fault_101 ?_
    refine aw_bipush (v := 101) (by decide) dX8_fault_104 ?_
    refine aw_ild (x := 101) (q := (8, 101)) (y := nI m) (by decide) (wv15 (by decide)) rfl G.2.2.1 (Nat.le_of_ble_eq_true rfl) rfl dX8_fault_106 ?_
    refine aw_icmp_ge (tgt := 148) (by decide) dX8_fault_107 (fun z => absurd z (nI_ge (by omega) (by omega))) (fun _ => ?_)
    refine aw_aload_n (x := ad 14 0 0) rfl dX8_fault_110 ?_
    refine aw_iload (x := (nI i)) rfl dX8_fault_111 ?_
    refine aw_iconst (v := 0) (by decide) dX8_fault_113 ?_
    refine aw_rV (As := [.int (nI i), .int 0]) (S := []) (v := some (.int (o.1 8 (101 + 8 * i + 1)))) (o2 := o) (ct_X8_its (s := i) (w := 0) (by omega) (by decide)) (mm_fit_of cbX8_its (by decide) (by decide)) wq949 cvX8_its wv14 rfl rfl rfl (Nat.le_of_ble_eq_true rfl) (by decide) (by decide) rfl dX8_fault_114 ?_
    refine aw_iload_n (x := (nI l)) rfl dX8_fault_117 ?_
    refine aw_icmp_ne (tgt := 142) (by decide) dX8_fault_118 (fun b1 => ?_) (fun b1 => ?_)
    · skip
      refine aw_iinc (n := 1) (x := (nI i)) (v := nI (i + 1)) (L2 := [some (.ref (ad 14 0 0)), some (.int (nI l)), none, none, none, some (.int a), some (.int (nI (i + 1)))]) rfl (nI_1 i) (by decide) rfl rfl dX8_fault_142 ?_
      refine aw_goto (tgt := 98) (by decide) dX8_fault_145 ?_
      have e9 : (RT (some (.int (a + mf_fn l (k + 1) (i) (o.1 8)))) (wd_row o 8 (mf_fl l (k + 1) (i) (o.1 8)))) = (RT (some (.int (a + mf_fn l (k) (i + 1) (o.1 8)))) (wd_row o 8 (mf_fl l (k) (i + 1) (o.1 8)))) := by first | (simp [mf_fn, mf_fl, wd_w_row, row_self, row_row, sumF_acc, mem, b1]; done) | (simp_all [mf_fn, mf_fl, wd_w_row, row_self, row_row, sumF_acc, mem, b1]; done)
      rw [e9]
      exact AW.locs (ih (i + 1) o a (by omega) (by (try simp only [wd_w_row, row_self]); first | exact cg_l7 G | exact G)) (lsub_keep (lsub_keep (lsub_keep (lsub_keep (lsub_keep (lsub_keep (lsub_keep lsub_nil)))))))
    · skip
      refine aw_aload_n (x := ad 14 0 0) rfl dX8_fault_121 ?_
      refine aw_iload (x := (nI i)) rfl dX8_fault_122 ?_
      refine aw_rV (As := [.int (nI i)]) (S := []) (v := some (.int (mf_cut (o.1 8) l i))) (o2 := o) (ct_X8_cut G hl (by omega) b1) (mm_fit_of cbX8_cut (by decide) (by decide)) wq993 cvX8_cut wv14 rfl rfl rfl (Nat.le_of_ble_eq_true rfl) (by decide) (by decide) rfl dX8_fault_124 ?_
      refine aw_if_eq (tgt := 142) (by decide) dX8_fault_127 (fun b2 => ?_) (fun b2 => ?_)
      · skip
        refine aw_iinc (n := 1) (x := (nI i)) (v := nI (i + 1)) (L2 := [some (.ref (ad 14 0 0)), some (.int (nI l)), none, none, none, some (.int a), some (.int (nI (i + 1)))]) rfl (nI_1 i) (by decide) rfl rfl dX8_fault_142 ?_
        refine aw_goto (tgt := 98) (by decide) dX8_fault_145 ?_
        have e9 : (RT (some (.int (a + mf_fn l (k + 1) (i) (o.1 8)))) (wd_row o 8 (mf_fl l (k + 1) (i) (o.1 8)))) = (RT (some (.int (a + mf_fn l (k) (i + 1) (o.1 8)))) (wd_row o 8 (mf_fl l (k) (i + 1) (o.1 8)))) := by first | (simp [mf_fn, mf_fl, wd_w_row, row_self, row_row, sumF_acc, mem, b1, b2]; done) | (simp_all [mf_fn, mf_fl, wd_w_row, row_self, row_row, sumF_acc, mem, b1, b2]; done)
        rw [e9]
        exact AW.locs (ih (i + 1) o a (by omega) (by (try simp only [wd_w_row, row_self]); first | exact cg_l7 G | exact G)) (lsub_keep (lsub_keep (lsub_keep (lsub_keep (lsub_keep (lsub_keep (lsub_keep lsub_nil)))))))
      · skip
        refine aw_aload_n (x := ad 14 0 0) rfl dX8_fault_130 ?_
        refine aw_iload (x := (nI i)) rfl dX8_fault_131 ?_
        refine aw_bipush (v := 6) (by decide) dX8_fault_133 ?_
        refine aw_iconst (v := 0) (by decide) dX8_fault_135 ?_
        refine aw_rV (As := [.int (nI i), .int 6, .int 0]) (S := []) (v := none) (o2 := (wd_w o 8 (101 + 8 * i + 7) 0)) (ct_X8_give (s := i) (w := 6) (by omega) (by decide)) (mm_fit_of cbX8_give (by decide) (by decide)) wq953 cvX8_give wv14 rfl rfl rfl (Nat.le_of_ble_eq_true rfl) (by decide) (by decide) rfl dX8_fault_136 ?_
        refine aw_iinc (n := 1) (x := a) (v := a + 1) (L2 := [some (.ref (ad 14 0 0)), some (.int (nI l)), none, none, none, some (.int (a + 1)), some (.int (nI i))]) rfl rfl (by decide) rfl rfl dX8_fault_139 ?_
        refine aw_iinc (n := 1) (x := (nI i)) (v := nI (i + 1)) (L2 := [some (.ref (ad 14 0 0)), some (.int (nI l)), none, none, none, some (.int (a + 1)), some (.int (nI (i + 1)))]) rfl (nI_1 i) (by decide) rfl rfl dX8_fault_142 ?_
        refine aw_goto (tgt := 98) (by decide) dX8_fault_145 ?_
        have e9 : (RT (some (.int (a + mf_fn l (k + 1) (i) (o.1 8)))) (wd_row o 8 (mf_fl l (k + 1) (i) (o.1 8)))) = (RT (some (.int ((a + 1) + mf_fn l (k) (i + 1) ((wd_w o 8 (101 + 8 * i + 7) 0).1 8)))) (wd_row (wd_w o 8 (101 + 8 * i + 7) 0) 8 (mf_fl l (k) (i + 1) ((wd_w o 8 (101 + 8 * i + 7) 0).1 8)))) := by first | (simp [mf_fn, mf_fl, wd_w_row, row_self, row_row, sumF_acc, mem, b1, b2]; done) | (simp_all [mf_fn, mf_fl, wd_w_row, row_self, row_row, sumF_acc, mem, b1, b2]; done)
        rw [e9]
        exact AW.locs (ih (i + 1) (wd_w o 8 (101 + 8 * i + 7) 0) (a + 1) (by omega) (by (try simp only [wd_w_row, row_self]); first | exact cg_l7 G | exact G)) (lsub_keep (lsub_keep (lsub_keep (lsub_keep (lsub_keep (lsub_keep (lsub_keep lsub_nil)))))))
theorem rt_fault {ad : Nat → Nat → Nat → Nat} {o : wd_S} {n m c : Nat} (V : mv o n m c) (J : mi (o.1 8) n m) {x k b : Int32} (hb : b = 0 ∨ b = 1) : CT ad MX8_fault [.ref (ad 14 0 0), .int x, .int k, .int b] o (OT (rf_fault o n m c x k b)) := by
  obtain ⟨G, hk, hc⟩ := id V
  obtain ⟨g1, g2, g3, g4, g5, g6⟩ := id G
  refine CT.of (L := [some (.ref (ad 14 0 0)), some (.int x), some (.int k), some (.int b), none, none, none]) rfl rfl (by decide) (Nat.le_of_ble_eq_true rfl) rfl ?_
  refine aw_aload_n (x := ad 14 0 0) rfl dX8_fault_0 ?_
  refine aw_iload_n (x := x) rfl dX8_fault_1 ?_
  rcases k1 : lk n x with _ | l
  · skip
    refine aw_rV (As := [.int x]) (S := []) (v := some (.int 0)) (o2 := o) (ct_X8_isLoop_none G k1) (mm_fit_of cbX8_isLoop (by decide) (by decide)) wq941 cvX8_isLoop wv14 rfl rfl rfl (Nat.le_of_ble_eq_true rfl) (by decide) (by decide) rfl dX8_fault_2 ?_
    refine aw_if_eq (tgt := 22) (by decide) dX8_fault_5 (fun _ => ?_) (fun z => absurd z (by decide))
    refine aw_iconst (v := 0) (by decide) dX8_fault_22 ?_
    refine aw_istore (L2 := [some (.ref (ad 14 0 0)), some (.int x), some (.int k), some (.int b), some (.int 0), none, none]) (by decide) rfl rfl dX8_fault_23 ?_
    refine aw_aload_n (x := ad 14 0 0) rfl dX8_fault_25 ?_
    refine aw_iload (x := 0) rfl dX8_fault_26 ?_
    refine aw_if_ne (tgt := 35) (by decide) dX8_fault_28 (fun z => absurd z (by decide)) (fun _ => ?_)
    refine aw_iconst (v := 1) (by decide) dX8_fault_31 ?_
    refine aw_goto (tgt := 51) (by decide) dX8_fault_32 ?_
    refine aw_rV (As := [.int 1]) (S := []) (v := some (.int 1)) (o2 := (wd_w o 12 1 1)) (ct_refused_p (by decide)) (mm_fit_of cbX8_refused (by decide) (by decide)) wq922 cvX8_refused wv14 rfl rfl rfl (Nat.le_of_ble_eq_true rfl) (by decide) (by decide) rfl dX8_fault_51 ?_
    obtain ⟨o1, ho1⟩ : ∃ z, z = (wd_w o 12 1 1) := ⟨_, rfl⟩
    rw [← ho1]
    have Go1 : cg (o1.1 8) n m := by rw [ho1]; rw [wd_w_row, row_ne _ _ (by decide)]; exact G
    refine aw_if_eq (tgt := 59) (by decide) dX8_fault_54 (fun z => absurd z (by decide)) (fun _ => ?_)
    refine aw_iconst (v := 0) (by decide) dX8_fault_57 ?_
    exact aw_iret rfl (by decide) (by decide) dX8_fault_58 ⟨by (subst ho1; first | with_reducible rfl | (simp [rf_fault, cs_span, mS, mS_8, oI, mR, oI, mR, wd_w_row, row_self, row_row, k1]; done) | (simp_all [rf_fault, cs_span, mS, mS_8, oI, mR, oI, mR, wd_w_row, row_self, row_row, k1]; done) | (simp only [wd_w_row, row_self, row_row, i32_add0, row_ne _ _ (show (8 : Nat) ≠ 12 by decide)] at *; simp [rf_fault, cs_span, mS, mS_8, oI, mR, oI, mR, wd_w_row, row_self, row_row, k1]; done)), by (subst ho1; first | with_reducible rfl | (simp [rf_fault, cs_span, mS, mS_8, oI, mR, oI, mR, wd_w_row, row_self, row_row, k1]; done) | (simp_all [rf_fault, cs_span, mS, mS_8, oI, mR, oI, mR, wd_w_row, row_self, row_row, k1]; done) | (simp only [wd_w_row, row_self, row_row, i32_add0, row_ne _ _ (show (8 : Nat) ≠ 12 by decide)] at *; simp [rf_fault, cs_span, mS, mS_8, oI, mR, oI, mR, wd_w_row, row_self, row_row, k1]; done))⟩
  · skip
    obtain ⟨rfl, k1l⟩ := lk_some k1
    have k1b : l < 5 := by omega
    refine aw_rV (As := [.int (nI l)]) (S := []) (v := some (.int 1)) (o2 := o) (ct_X8_isLoop_some G k1) (mm_fit_of cbX8_isLoop (by decide) (by decide)) wq941 cvX8_isLoop wv14 rfl rfl rfl (Nat.le_of_ble_eq_true rfl) (by decide) (by decide) rfl dX8_fault_2 ?_
    refine aw_if_eq (tgt := 22) (by decide) dX8_fault_5 (fun z => absurd z (by decide)) (fun _ => ?_)
    refine aw_iload_n (x := k) rfl dX8_fault_8 ?_
    refine aw_iconst (v := 1) (by decide) dX8_fault_9 ?_
    refine aw_bipush (v := 12) (by decide) dX8_fault_10 ?_
    by_cases w2 : k < 1
    · skip
      refine aw_rS (As := [.int k, .int 1, .int 12]) (S := []) (v := some (.int 0)) (o2 := o) (ct_within_lo w2) (mm_fit_of cbX8_within (by decide) (by decide)) wq938 wq939 rfl rfl (Nat.le_of_ble_eq_true rfl) (by decide) (by decide) rfl dX8_fault_12 ?_
      refine aw_if_eq (tgt := 22) (by decide) dX8_fault_15 (fun _ => ?_) (fun z => absurd z (by decide))
      refine aw_iconst (v := 0) (by decide) dX8_fault_22 ?_
      refine aw_istore (L2 := [some (.ref (ad 14 0 0)), some (.int (nI l)), some (.int k), some (.int b), some (.int 0), none, none]) (by decide) rfl rfl dX8_fault_23 ?_
      refine aw_aload_n (x := ad 14 0 0) rfl dX8_fault_25 ?_
      refine aw_iload (x := 0) rfl dX8_fault_26 ?_
      refine aw_if_ne (tgt := 35) (by decide) dX8_fault_28 (fun z => absurd z (by decide)) (fun _ => ?_)
      refine aw_iconst (v := 1) (by decide) dX8_fault_31 ?_
      refine aw_goto (tgt := 51) (by decide) dX8_fault_32 ?_
      refine aw_rV (As := [.int 1]) (S := []) (v := some (.int 1)) (o2 := (wd_w o 12 1 1)) (ct_refused_p (by decide)) (mm_fit_of cbX8_refused (by decide) (by decide)) wq922 cvX8_refused wv14 rfl rfl rfl (Nat.le_of_ble_eq_true rfl) (by decide) (by decide) rfl dX8_fault_51 ?_
      obtain ⟨o2, ho2⟩ : ∃ z, z = (wd_w o 12 1 1) := ⟨_, rfl⟩
      rw [← ho2]
      have Go2 : cg (o2.1 8) n m := by rw [ho2]; rw [wd_w_row, row_ne _ _ (by decide)]; exact G
      refine aw_if_eq (tgt := 59) (by decide) dX8_fault_54 (fun z => absurd z (by decide)) (fun _ => ?_)
      refine aw_iconst (v := 0) (by decide) dX8_fault_57 ?_
      exact aw_iret rfl (by decide) (by decide) dX8_fault_58 ⟨by (subst ho2; first | with_reducible rfl | (simp [rf_fault, cs_span, mS, mS_8, oI, mR, oI, mR, wd_w_row, row_self, row_row, k1, w2]; done) | (simp_all [rf_fault, cs_span, mS, mS_8, oI, mR, oI, mR, wd_w_row, row_self, row_row, k1, w2]; done) | (simp only [wd_w_row, row_self, row_row, i32_add0, row_ne _ _ (show (8 : Nat) ≠ 12 by decide)] at *; simp [rf_fault, cs_span, mS, mS_8, oI, mR, oI, mR, wd_w_row, row_self, row_row, k1, w2]; done)), by (subst ho2; first | with_reducible rfl | (simp [rf_fault, cs_span, mS, mS_8, oI, mR, oI, mR, wd_w_row, row_self, row_row, k1, w2]; done) | (simp_all [rf_fault, cs_span, mS, mS_8, oI, mR, oI, mR, wd_w_row, row_self, row_row, k1, w2]; done) | (simp only [wd_w_row, row_self, row_row, i32_add0, row_ne _ _ (show (8 : Nat) ≠ 12 by decide)] at *; simp [rf_fault, cs_span, mS, mS_8, oI, mR, oI, mR, wd_w_row, row_self, row_row, k1, w2]; done))⟩
    · skip
      by_cases zw2 : k > 12
      · skip
        refine aw_rS (As := [.int k, .int 1, .int 12]) (S := []) (v := some (.int 0)) (o2 := o) (ct_within_hi zw2) (mm_fit_of cbX8_within (by decide) (by decide)) wq938 wq939 rfl rfl (Nat.le_of_ble_eq_true rfl) (by decide) (by decide) rfl dX8_fault_12 ?_
        refine aw_if_eq (tgt := 22) (by decide) dX8_fault_15 (fun _ => ?_) (fun z => absurd z (by decide))
        refine aw_iconst (v := 0) (by decide) dX8_fault_22 ?_
        refine aw_istore (L2 := [some (.ref (ad 14 0 0)), some (.int (nI l)), some (.int k), some (.int b), some (.int 0), none, none]) (by decide) rfl rfl dX8_fault_23 ?_
        refine aw_aload_n (x := ad 14 0 0) rfl dX8_fault_25 ?_
        refine aw_iload (x := 0) rfl dX8_fault_26 ?_
        refine aw_if_ne (tgt := 35) (by decide) dX8_fault_28 (fun z => absurd z (by decide)) (fun _ => ?_)
        refine aw_iconst (v := 1) (by decide) dX8_fault_31 ?_
        refine aw_goto (tgt := 51) (by decide) dX8_fault_32 ?_
        refine aw_rV (As := [.int 1]) (S := []) (v := some (.int 1)) (o2 := (wd_w o 12 1 1)) (ct_refused_p (by decide)) (mm_fit_of cbX8_refused (by decide) (by decide)) wq922 cvX8_refused wv14 rfl rfl rfl (Nat.le_of_ble_eq_true rfl) (by decide) (by decide) rfl dX8_fault_51 ?_
        obtain ⟨o3, ho3⟩ : ∃ z, z = (wd_w o 12 1 1) := ⟨_, rfl⟩
        rw [← ho3]
        have Go3 : cg (o3.1 8) n m := by rw [ho3]; rw [wd_w_row, row_ne _ _ (by decide)]; exact G
        refine aw_if_eq (tgt := 59) (by decide) dX8_fault_54 (fun z => absurd z (by decide)) (fun _ => ?_)
        refine aw_iconst (v := 0) (by decide) dX8_fault_57 ?_
        exact aw_iret rfl (by decide) (by decide) dX8_fault_58 ⟨by (subst ho3; first | with_reducible rfl | (simp [rf_fault, cs_span, mS, mS_8, oI, mR, oI, mR, wd_w_row, row_self, row_row, k1, w2, zw2]; done) | (simp_all [rf_fault, cs_span, mS, mS_8, oI, mR, oI, mR, wd_w_row, row_self, row_row, k1, w2, zw2]; done) | (simp only [wd_w_row, row_self, row_row, i32_add0, row_ne _ _ (show (8 : Nat) ≠ 12 by decide)] at *; simp [rf_fault, cs_span, mS, mS_8, oI, mR, oI, mR, wd_w_row, row_self, row_row, k1, w2, zw2]; done)), by (subst ho3; first | with_reducible rfl | (simp [rf_fault, cs_span, mS, mS_8, oI, mR, oI, mR, wd_w_row, row_self, row_row, k1, w2, zw2]; done) | (simp_all [rf_fault, cs_span, mS, mS_8, oI, mR, oI, mR, wd_w_row, row_self, row_row, k1, w2, zw2]; done) | (simp only [wd_w_row, row_self, row_row, i32_add0, row_ne _ _ (show (8 : Nat) ≠ 12 by decide)] at *; simp [rf_fault, cs_span, mS, mS_8, oI, mR, oI, mR, wd_w_row, row_self, row_row, k1, w2, zw2]; done))⟩
      · skip
        refine aw_rS (As := [.int k, .int 1, .int 12]) (S := []) (v := some (.int 1)) (o2 := o) (ct_within_in w2 zw2) (mm_fit_of cbX8_within (by decide) (by decide)) wq938 wq939 rfl rfl (Nat.le_of_ble_eq_true rfl) (by decide) (by decide) rfl dX8_fault_12 ?_
        refine aw_if_eq (tgt := 22) (by decide) dX8_fault_15 (fun z => absurd z (by decide)) (fun _ => ?_)
        refine aw_iconst (v := 1) (by decide) dX8_fault_18 ?_
        refine aw_goto (tgt := 23) (by decide) dX8_fault_19 ?_
        refine aw_istore (L2 := [some (.ref (ad 14 0 0)), some (.int (nI l)), some (.int k), some (.int b), some (.int 1), none, none]) (by decide) rfl rfl dX8_fault_23 ?_
        refine aw_aload_n (x := ad 14 0 0) rfl dX8_fault_25 ?_
        refine aw_iload (x := 1) rfl dX8_fault_26 ?_
        refine aw_if_ne (tgt := 35) (by decide) dX8_fault_28 (fun _ => ?_) (fun z => absurd z (by decide))
        refine aw_aload_n (x := ad 14 0 0) rfl dX8_fault_35 ?_
        refine aw_iload_n (x := (nI l)) rfl dX8_fault_36 ?_
        refine aw_bipush (v := 6) (by decide) dX8_fault_37 ?_
        refine aw_rV (As := [.int (nI l), .int 6]) (S := [.ref (ad 14 0 0)]) (v := some (.int (o.1 8 (20 * l + 7)))) (o2 := o) (ct_X8_of (l := l) (w := 6) (by omega) (by decide)) (mm_fit_of cbX8_of (by decide) (by decide)) wq969 cvX8_of wv14 rfl rfl rfl (Nat.le_of_ble_eq_true rfl) (by decide) (by decide) rfl dX8_fault_39 ?_
        refine aw_iconst (v := (-1)) (by decide) dX8_fault_42 ?_
        refine aw_icmp_eq (tgt := 50) (by decide) dX8_fault_43 (fun b3 => ?_) (fun b3 => ?_)
        · skip
          refine aw_iconst (v := 0) (by decide) dX8_fault_50 ?_
          refine aw_rV (As := [.int 0]) (S := []) (v := some (.int 0)) (o2 := (wd_w o 12 1 0)) (ct_refused_0) (mm_fit_of cbX8_refused (by decide) (by decide)) wq922 cvX8_refused wv14 rfl rfl rfl (Nat.le_of_ble_eq_true rfl) (by decide) (by decide) rfl dX8_fault_51 ?_
          obtain ⟨o4, ho4⟩ : ∃ z, z = (wd_w o 12 1 0) := ⟨_, rfl⟩
          rw [← ho4]
          have Go4 : cg (o4.1 8) n m := by rw [ho4]; rw [wd_w_row, row_ne _ _ (by decide)]; exact G
          refine aw_if_eq (tgt := 59) (by decide) dX8_fault_54 (fun _ => ?_) (fun z => absurd z (by decide))
          refine aw_aload_n (x := ad 14 0 0) rfl dX8_fault_59 ?_
          refine aw_rV (As := []) (S := []) (v := none) (o2 := (ms_sv o4 c)) (ct_X8_saves (by rw [ho4, wd_get, if_neg (by decide)]; exact hk) hc) (mm_fit_of cbX8_saves (by decide) (by decide)) wq930 cvX8_saves wv14 rfl rfl rfl (Nat.le_of_ble_eq_true rfl) (by decide) (by decide) rfl dX8_fault_60 ?_
          obtain ⟨o5, ho5⟩ : ∃ z, z = (ms_sv o4 c) := ⟨_, rfl⟩
          rw [← ho5]
          have Go5 : cg (o5.1 8) n m := by rw [ho5]; rw [msv_ne (by decide) (by decide)]; exact Go4
          refine aw_aload_n (x := ad 14 0 0) rfl dX8_fault_63 ?_
          refine aw_iload_n (x := (nI l)) rfl dX8_fault_64 ?_
          refine aw_bipush (v := 6) (by decide) dX8_fault_65 ?_
          refine aw_iload_n (x := k) rfl dX8_fault_67 ?_
          refine aw_rV (As := [.int (nI l), .int 6, .int k]) (S := []) (v := none) (o2 := (wd_w o5 8 (20 * l + 7) k)) (ct_X8_put (l := l) (w := 6) (by omega) (by decide)) (mm_fit_of cbX8_put (by decide) (by decide)) wq888 cvX8_put wv14 rfl rfl rfl (Nat.le_of_ble_eq_true rfl) (by decide) (by decide) rfl dX8_fault_68 ?_
          refine aw_aload_n (x := ad 14 0 0) rfl dX8_fault_71 ?_
          refine aw_iload_n (x := (nI l)) rfl dX8_fault_72 ?_
          refine aw_bipush (v := 7) (by decide) dX8_fault_73 ?_
          refine aw_iload_n (x := b) rfl dX8_fault_75 ?_
          refine aw_if_eq (tgt := 83) (by decide) dX8_fault_76 (fun b4 => ?_) (fun b4 => ?_)
          · skip
            refine aw_iconst (v := 0) (by decide) dX8_fault_83 ?_
            refine aw_rV (As := [.int (nI l), .int 7, .int 0]) (S := []) (v := none) (o2 := (wd_w (wd_w o5 8 (20 * l + 7) k) 8 (20 * l + 8) 0)) (ct_X8_put (l := l) (w := 7) (by omega) (by decide)) (mm_fit_of cbX8_put (by decide) (by decide)) wq888 cvX8_put wv14 rfl rfl rfl (Nat.le_of_ble_eq_true rfl) (by decide) (by decide) rfl dX8_fault_84 ?_
            refine aw_aload_n (x := ad 14 0 0) rfl dX8_fault_87 ?_
            refine aw_iload_n (x := (nI l)) rfl dX8_fault_88 ?_
            obtain ⟨o6, ho6⟩ : ∃ z, z = (wd_w (wd_w o5 8 (20 * l + 7) k) 8 (20 * l + 8) 0) := ⟨_, rfl⟩
            rw [← ho6]
            have Go6 : cg (o6.1 8) n m := by rw [ho6]; simp only [wd_w_row, row_self]; exact cg_upd (cg_upd (Go5) (by omega) (by omega) (fun _ _ => ⟨by omega, by omega⟩)) (by omega) (by omega) (fun _ _ => ⟨by omega, by omega⟩)
            have E5 : o6.1 8 (20 * l + 5) = o.1 8 (20 * l + 5) := by rw [ho6]; simp only [wd_w_row, row_self]; rw [upd_ne _ _ (by omega)]; rw [upd_ne _ _ (by omega)]; rw [ho5, msv_ne (by decide) (by decide), ho4, wd_w_row, row_ne _ _ (by decide)]
            refine aw_rV (As := [.int (nI l)]) (S := []) (v := none) (o2 := (wd_row o6 8 (mf_end (o6.1 8) m l (nt (o.1 8 (20 * l + 5)))))) (ct_X8_ends Go6 (by omega) (by rw [E5]; exact mi_oth J (by omega))) (mm_fit_of cbX8_ends (by decide) (by decide)) wq1033 cvX8_ends wv14 rfl rfl rfl (Nat.le_of_ble_eq_true rfl) (by decide) (by decide) rfl dX8_fault_89 ?_
            obtain ⟨o7, ho7⟩ : ∃ z, z = (wd_row o6 8 (mf_end (o6.1 8) m l (nt (o.1 8 (20 * l + 5))))) := ⟨_, rfl⟩
            rw [← ho7]
            have Go7 : cg (o7.1 8) n m := by rw [ho7]; rw [row_self]; exact cg_stl (stl_mend2 (by omega) (by rw [E5]; exact mi_oth5 J (by omega))) Go6
            refine aw_iconst (v := 0) (by decide) dX8_fault_92 ?_
            refine aw_istore (L2 := [some (.ref (ad 14 0 0)), some (.int (nI l)), some (.int k), some (.int b), some (.int 1), some (.int 0), none]) (by decide) rfl rfl dX8_fault_93 ?_
            refine aw_iconst (v := 0) (by decide) dX8_fault_95 ?_
            refine aw_istore (L2 := [some (.ref (ad 14 0 0)), some (.int (nI l)), some (.int k), some (.int b), some (.int 1), some (.int 0), some (.int 0)]) (by decide) rfl rfl dX8_fault_96 ?_
            refine AW.post (AW.locs (lp_X8_fl (by omega) m 0 o7 0 (by omega) Go7) (lsub_keep (lsub_keep (lsub_none (lsub_none (lsub_none (lsub_keep (lsub_keep lsub_nil)))))))) (fun r o2 q => ?_)
            subst ho7; subst ho6; subst ho5; subst ho4; simpa [rf_fault, mf_fault, mS, mS_8, cs_span, wd_w_row, row_self, row_row, k1, w2, zw2, b3, b4, OT, oI, RT] using q
          · skip
            refine aw_iconst (v := 1) (by decide) dX8_fault_79 ?_
            refine aw_goto (tgt := 84) (by decide) dX8_fault_80 ?_
            refine aw_rV (As := [.int (nI l), .int 7, .int 1]) (S := []) (v := none) (o2 := (wd_w (wd_w o5 8 (20 * l + 7) k) 8 (20 * l + 8) 1)) (ct_X8_put (l := l) (w := 7) (by omega) (by decide)) (mm_fit_of cbX8_put (by decide) (by decide)) wq888 cvX8_put wv14 rfl rfl rfl (Nat.le_of_ble_eq_true rfl) (by decide) (by decide) rfl dX8_fault_84 ?_
            refine aw_aload_n (x := ad 14 0 0) rfl dX8_fault_87 ?_
            refine aw_iload_n (x := (nI l)) rfl dX8_fault_88 ?_
            obtain ⟨o8, ho8⟩ : ∃ z, z = (wd_w (wd_w o5 8 (20 * l + 7) k) 8 (20 * l + 8) 1) := ⟨_, rfl⟩
            rw [← ho8]
            have Go8 : cg (o8.1 8) n m := by rw [ho8]; simp only [wd_w_row, row_self]; exact cg_upd (cg_upd (Go5) (by omega) (by omega) (fun _ _ => ⟨by omega, by omega⟩)) (by omega) (by omega) (fun _ _ => ⟨by omega, by omega⟩)
            have E5 : o8.1 8 (20 * l + 5) = o.1 8 (20 * l + 5) := by rw [ho8]; simp only [wd_w_row, row_self]; rw [upd_ne _ _ (by omega)]; rw [upd_ne _ _ (by omega)]; rw [ho5, msv_ne (by decide) (by decide), ho4, wd_w_row, row_ne _ _ (by decide)]
            refine aw_rV (As := [.int (nI l)]) (S := []) (v := none) (o2 := (wd_row o8 8 (mf_end (o8.1 8) m l (nt (o.1 8 (20 * l + 5)))))) (ct_X8_ends Go8 (by omega) (by rw [E5]; exact mi_oth J (by omega))) (mm_fit_of cbX8_ends (by decide) (by decide)) wq1033 cvX8_ends wv14 rfl rfl rfl (Nat.le_of_ble_eq_true rfl) (by decide) (by decide) rfl dX8_fault_89 ?_
            obtain ⟨o9, ho9⟩ : ∃ z, z = (wd_row o8 8 (mf_end (o8.1 8) m l (nt (o.1 8 (20 * l + 5))))) := ⟨_, rfl⟩
            rw [← ho9]
            have Go9 : cg (o9.1 8) n m := by rw [ho9]; rw [row_self]; exact cg_stl (stl_mend2 (by omega) (by rw [E5]; exact mi_oth5 J (by omega))) Go8
            refine aw_iconst (v := 0) (by decide) dX8_fault_92 ?_
            refine aw_istore (L2 := [some (.ref (ad 14 0 0)), some (.int (nI l)), some (.int k), some (.int b), some (.int 1), some (.int 0), none]) (by decide) rfl rfl dX8_fault_93 ?_
            refine aw_iconst (v := 0) (by decide) dX8_fault_95 ?_
            refine aw_istore (L2 := [some (.ref (ad 14 0 0)), some (.int (nI l)), some (.int k), some (.int b), some (.int 1), some (.int 0), some (.int 0)]) (by decide) rfl rfl dX8_fault_96 ?_
            refine AW.post (AW.locs (lp_X8_fl (by omega) m 0 o9 0 (by omega) Go9) (lsub_keep (lsub_keep (lsub_none (lsub_none (lsub_none (lsub_keep (lsub_keep lsub_nil)))))))) (fun r o2 q => ?_)
            have hb1 := hb.resolve_left b4
            subst hb1
            subst ho9; subst ho8; subst ho5; subst ho4; simpa [rf_fault, mf_fault, mS, mS_8, cs_span, wd_w_row, row_self, row_row, k1, w2, zw2, b3, b4, OT, oI, RT] using q
        · skip
          refine aw_iconst (v := 2) (by decide) dX8_fault_46 ?_
          refine aw_goto (tgt := 51) (by decide) dX8_fault_47 ?_
          refine aw_rV (As := [.int 2]) (S := []) (v := some (.int 1)) (o2 := (wd_w o 12 1 2)) (ct_refused_p (by decide)) (mm_fit_of cbX8_refused (by decide) (by decide)) wq922 cvX8_refused wv14 rfl rfl rfl (Nat.le_of_ble_eq_true rfl) (by decide) (by decide) rfl dX8_fault_51 ?_
          obtain ⟨o10, ho10⟩ : ∃ z, z = (wd_w o 12 1 2) := ⟨_, rfl⟩
          rw [← ho10]
          have Go10 : cg (o10.1 8) n m := by rw [ho10]; rw [wd_w_row, row_ne _ _ (by decide)]; exact G
          refine aw_if_eq (tgt := 59) (by decide) dX8_fault_54 (fun z => absurd z (by decide)) (fun _ => ?_)
          refine aw_iconst (v := 0) (by decide) dX8_fault_57 ?_
          exact aw_iret rfl (by decide) (by decide) dX8_fault_58 ⟨by (subst ho10; first | with_reducible rfl | (simp [rf_fault, cs_span, mS, mS_8, oI, mR, oI, mR, wd_w_row, row_self, row_row, k1, w2, zw2, b3]; done) | (simp_all [rf_fault, cs_span, mS, mS_8, oI, mR, oI, mR, wd_w_row, row_self, row_row, k1, w2, zw2, b3]; done) | (simp only [wd_w_row, row_self, row_row, i32_add0, row_ne _ _ (show (8 : Nat) ≠ 12 by decide)] at *; simp [rf_fault, cs_span, mS, mS_8, oI, mR, oI, mR, wd_w_row, row_self, row_row, k1, w2, zw2, b3]; done)), by (subst ho10; first | with_reducible rfl | (simp [rf_fault, cs_span, mS, mS_8, oI, mR, oI, mR, wd_w_row, row_self, row_row, k1, w2, zw2, b3]; done) | (simp_all [rf_fault, cs_span, mS, mS_8, oI, mR, oI, mR, wd_w_row, row_self, row_row, k1, w2, zw2, b3]; done) | (simp only [wd_w_row, row_self, row_row, i32_add0, row_ne _ _ (show (8 : Nat) ≠ 12 by decide)] at *; simp [rf_fault, cs_span, mS, mS_8, oI, mR, oI, mR, wd_w_row, row_self, row_row, k1, w2, zw2, b3]; done))⟩
def mf_md (l : Nat) : Nat → Nat → (Nat → Int32) → Int32 → (Nat → Int32) × Int32
  | 0, _, N, a => (N, a)
  | k + 1, i, N, a => if N (101 + 8 * i + 1) = nI l then (if N (101 + 8 * i + 6) = 1 then (if mf_cut N l i = 0 then mf_md l k (i + 1) N a else mf_md l k (i + 1) (upd N (101 + 8 * i + 7) 3) 1) else mf_md l k (i + 1) N a) else mf_md l k (i + 1) N a
def mf_mt (N : Nat → Int32) (m l e : Nat) (a : Int32) : Nat → Int32 :=
  let N1 := upd (upd N (20 * l + 7) (-1)) (20 * l + 8) 0
  if a = 0 then N1 else if N1 (20 * l + 1) = 3 then mf_end N1 m l e else if N1 (20 * l + 1) = 0 then mf_end N1 m l e else if N1 (20 * l + 1) = 7 then mf_end N1 m l e else N1
theorem stl_md {l : Nat} : ∀ (k i : Nat) (N : Nat → Int32) (a : Int32), stl N (mf_md l k i N a).1
  | 0, _, _, _ => stl.rfl'
  | k + 1, i, N, a => by
    unfold mf_md
    split
    · split
      · split
        · exact stl_md k (i + 1) _ _
        · exact (stl_upd (st_su (by decide) (by decide))).trans (stl_md k (i + 1) _ _)
      · exact stl_md k (i + 1) _ _
    · exact stl_md k (i + 1) _ _
theorem md_lo {l x : Nat} (hx : x ≤ 100) : ∀ (k i : Nat) (N : Nat → Int32) (a : Int32), (mf_md l k i N a).1 x = N x
  | 0, _, _, _ => rfl
  | k + 1, i, N, a => by
    unfold mf_md
    split
    · split
      · split
        · exact md_lo hx k (i + 1) _ _
        · rw [md_lo hx k (i + 1) _ _, upd_ne _ _ (by omega)]
      · exact md_lo hx k (i + 1) _ _
    · exact md_lo hx k (i + 1) _ _
theorem lp_X8_md {ad : Nat → Nat → Nat → Nat} {F : (Option Value ⊕ String) → wd_S → Prop} {n m l : Nat} {sp : Int32} (hl : l < 5) : ∀ (k i : Nat) (o : wd_S) (a : Int32), i + k = m → (cg (o.1 8) n m) → (AW ad MX8_mend 118 [some (.ref (ad 14 0 0)), some (.int (nI l)), none, some (.int sp), some (.int ((mf_md l k i (o.1 8) a).2)), none] [] (wd_row o 8 (mf_md l k i (o.1 8) a).1) 0 0 F) → AW ad MX8_mend 57 [some (.ref (ad 14 0 0)), some (.int (nI l)), none, some (.int sp), some (.int a), some (.int (nI i))] [] o 0 0 F := by
  intro k
  induction k with
  | zero =>
    intro i o a hk G K
    have g4 := G.2.2.2.1
    refine aw_iload (x := (nI i)) rfl dX8_mend_57 ?_
    refine aw_aload_n (x := ad 14 0 0) rfl dX8_mend_59 ?_
    refine aw_getr (q := (15, 0, 0)) wv14 rfl flX8_7 rfl rfl dX8_mend_60 ?_
    refine aw_bipush (v := 101) (by decide) dX8_mend_63 ?_
    refine aw_ild (x := 101) (q := (8, 101)) (y := nI m) (by decide) (wv15 (by decide)) rfl G.2.2.1 (Nat.le_of_ble_eq_true rfl) rfl dX8_mend_65 ?_
    refine aw_icmp_ge (tgt := 118) (by decide) dX8_mend_66 (fun _ => ?_) (fun z => absurd (nI_le (by omega) (by omega)) z)
    exact AW.locs (by simpa only [mf_md, row_id] using K) (lsub_keep (lsub_keep (lsub_keep (lsub_keep (lsub_keep (lsub_none lsub_nil))))))
  | succ k ih =>
    intro i o a hk G K
    have g4 := G.2.2.2.1
    refine aw_iload (x := (nI i)) rfl dX8_mend_57 ?_
    refine aw_aload_n (x := ad 14 0 0) rfl dX8_mend_59 ?_
    refine aw_getr (q := (15, 0, 0)) wv14 rfl flX8_7 rfl rfl dX8_mend_60 ?_
    refine aw_bipush (v := 101) (by decide) dX8_mend_63 ?_
    refine aw_ild (x := 101) (q := (8, 101)) (y := nI m) (by decide) (wv15 (by decide)) rfl G.2.2.1 (Nat.le_of_ble_eq_true rfl) rfl dX8_mend_65 ?_
    refine aw_icmp_ge (tgt := 118) (by decide) dX8_mend_66 (fun z => absurd z (nI_ge (by omega) (by omega))) (fun _ => ?_)
    refine aw_aload_n (x := ad 14 0 0) rfl dX8_mend_69 ?_
    refine aw_iload (x := (nI i)) rfl dX8_mend_70 ?_
    refine aw_iconst (v := 0) (by decide) dX8_mend_72 ?_
    refine aw_rV (As := [.int (nI i), .int 0]) (S := []) (v := some (.int (o.1 8 (101 + 8 * i + 1)))) (o2 := o) (ct_X8_its (s := i) (w := 0) (by omega) (by decide)) (mm_fit_of cbX8_its (by decide) (by decide)) wq949 cvX8_its wv14 rfl rfl rfl (Nat.le_of_ble_eq_true rfl) (by decide) (by decide) rfl dX8_mend_73 ?_
    refine aw_iload_n (x := (nI l)) rfl dX8_mend_76 ?_
    refine aw_icmp_ne (tgt := 112) (by decide) dX8_mend_77 (fun b1 => ?_) (fun b1 => ?_)
    · skip
      refine aw_iinc (n := 1) (x := (nI i)) (v := nI (i + 1)) (L2 := [some (.ref (ad 14 0 0)), some (.int (nI l)), none, some (.int sp), some (.int a), some (.int (nI (i + 1)))]) rfl (nI_1 i) (by decide) rfl rfl dX8_mend_112 ?_
      refine aw_goto (tgt := 57) (by decide) dX8_mend_115 ?_
      exact AW.locs (ih (i + 1) o a (by omega) (by (try simp only [wd_w_row, row_self]); first | exact cg_l7 G | exact G) (by simpa [mf_md, wd_w_row, row_self, row_row, b1] using K)) (lsub_keep (lsub_keep (lsub_keep (lsub_keep (lsub_keep (lsub_keep lsub_nil))))))
    · skip
      refine aw_aload_n (x := ad 14 0 0) rfl dX8_mend_80 ?_
      refine aw_iload (x := (nI i)) rfl dX8_mend_81 ?_
      refine aw_iconst (v := 5) (by decide) dX8_mend_83 ?_
      refine aw_rV (As := [.int (nI i), .int 5]) (S := []) (v := some (.int (o.1 8 (101 + 8 * i + 6)))) (o2 := o) (ct_X8_its (s := i) (w := 5) (by omega) (by decide)) (mm_fit_of cbX8_its (by decide) (by decide)) wq949 cvX8_its wv14 rfl rfl rfl (Nat.le_of_ble_eq_true rfl) (by decide) (by decide) rfl dX8_mend_84 ?_
      refine aw_iconst (v := 1) (by decide) dX8_mend_87 ?_
      refine aw_icmp_ne (tgt := 112) (by decide) dX8_mend_88 (fun b2 => ?_) (fun b2 => ?_)
      · skip
        refine aw_iinc (n := 1) (x := (nI i)) (v := nI (i + 1)) (L2 := [some (.ref (ad 14 0 0)), some (.int (nI l)), none, some (.int sp), some (.int a), some (.int (nI (i + 1)))]) rfl (nI_1 i) (by decide) rfl rfl dX8_mend_112 ?_
        refine aw_goto (tgt := 57) (by decide) dX8_mend_115 ?_
        exact AW.locs (ih (i + 1) o a (by omega) (by (try simp only [wd_w_row, row_self]); first | exact cg_l7 G | exact G) (by simpa [mf_md, wd_w_row, row_self, row_row, b1, b2] using K)) (lsub_keep (lsub_keep (lsub_keep (lsub_keep (lsub_keep (lsub_keep lsub_nil))))))
      · skip
        refine aw_aload_n (x := ad 14 0 0) rfl dX8_mend_91 ?_
        refine aw_iload (x := (nI i)) rfl dX8_mend_92 ?_
        refine aw_rV (As := [.int (nI i)]) (S := []) (v := some (.int (mf_cut (o.1 8) l i))) (o2 := o) (ct_X8_cut G hl (by omega) b1) (mm_fit_of cbX8_cut (by decide) (by decide)) wq993 cvX8_cut wv14 rfl rfl rfl (Nat.le_of_ble_eq_true rfl) (by decide) (by decide) rfl dX8_mend_94 ?_
        refine aw_if_eq (tgt := 112) (by decide) dX8_mend_97 (fun b3 => ?_) (fun b3 => ?_)
        · skip
          refine aw_iinc (n := 1) (x := (nI i)) (v := nI (i + 1)) (L2 := [some (.ref (ad 14 0 0)), some (.int (nI l)), none, some (.int sp), some (.int a), some (.int (nI (i + 1)))]) rfl (nI_1 i) (by decide) rfl rfl dX8_mend_112 ?_
          refine aw_goto (tgt := 57) (by decide) dX8_mend_115 ?_
          exact AW.locs (ih (i + 1) o a (by omega) (by (try simp only [wd_w_row, row_self]); first | exact cg_l7 G | exact G) (by simpa [mf_md, wd_w_row, row_self, row_row, b1, b2, b3] using K)) (lsub_keep (lsub_keep (lsub_keep (lsub_keep (lsub_keep (lsub_keep lsub_nil))))))
        · skip
          refine aw_aload_n (x := ad 14 0 0) rfl dX8_mend_100 ?_
          refine aw_iload (x := (nI i)) rfl dX8_mend_101 ?_
          refine aw_bipush (v := 6) (by decide) dX8_mend_103 ?_
          refine aw_iconst (v := 3) (by decide) dX8_mend_105 ?_
          refine aw_rV (As := [.int (nI i), .int 6, .int 3]) (S := []) (v := none) (o2 := (wd_w o 8 (101 + 8 * i + 7) 3)) (ct_X8_give (s := i) (w := 6) (by omega) (by decide)) (mm_fit_of cbX8_give (by decide) (by decide)) wq953 cvX8_give wv14 rfl rfl rfl (Nat.le_of_ble_eq_true rfl) (by decide) (by decide) rfl dX8_mend_106 ?_
          refine aw_iconst (v := 1) (by decide) dX8_mend_109 ?_
          refine aw_istore (L2 := [some (.ref (ad 14 0 0)), some (.int (nI l)), none, some (.int sp), some (.int 1), some (.int (nI i))]) (by decide) rfl rfl dX8_mend_110 ?_
          refine aw_iinc (n := 1) (x := (nI i)) (v := nI (i + 1)) (L2 := [some (.ref (ad 14 0 0)), some (.int (nI l)), none, some (.int sp), some (.int 1), some (.int (nI (i + 1)))]) rfl (nI_1 i) (by decide) rfl rfl dX8_mend_112 ?_
          refine aw_goto (tgt := 57) (by decide) dX8_mend_115 ?_
          exact AW.locs (ih (i + 1) (wd_w o 8 (101 + 8 * i + 7) 3) 1 (by omega) (by (try simp only [wd_w_row, row_self]); first | exact cg_l7 G | exact G) (by simpa [mf_md, wd_w_row, row_self, row_row, b1, b2, b3] using K)) (lsub_keep (lsub_keep (lsub_keep (lsub_keep (lsub_keep (lsub_keep lsub_nil))))))
theorem tl_X8_mend {ad : Nat → Nat → Nat → Nat} {o : wd_S} {n m : Nat} (G : cg (o.1 8) n m) {l e : Nat} {sp a : Int32} (hl : l < 5) (he : o.1 8 (20 * l + 5) = -1 ∨ (e < 5 ∧ o.1 8 (20 * l + 5) = nI e)) : AW ad MX8_mend 118 [some (.ref (ad 14 0 0)), some (.int (nI l)), none, some (.int sp), some (.int a), none] [] o 0 0 (RT (some (.int sp)) (wd_row o 8 (mf_mt (o.1 8) m l e a))) := by
  obtain ⟨g1, g2, g3, g4, g5, g6⟩ := id G
  refine aw_aload_n (x := ad 14 0 0) rfl dX8_mend_118 ?_
  refine aw_iload_n (x := (nI l)) rfl dX8_mend_119 ?_
  refine aw_bipush (v := 6) (by decide) dX8_mend_120 ?_
  refine aw_iconst (v := (-1)) (by decide) dX8_mend_122 ?_
  refine aw_rV (As := [.int (nI l), .int 6, .int (-1)]) (S := []) (v := none) (o2 := (wd_w o 8 (20 * l + 7) (-1))) (ct_X8_put (l := l) (w := 6) (by omega) (by decide)) (mm_fit_of cbX8_put (by decide) (by decide)) wq888 cvX8_put wv14 rfl rfl rfl (Nat.le_of_ble_eq_true rfl) (by decide) (by decide) rfl dX8_mend_123 ?_
  refine aw_aload_n (x := ad 14 0 0) rfl dX8_mend_126 ?_
  refine aw_iload_n (x := (nI l)) rfl dX8_mend_127 ?_
  refine aw_bipush (v := 7) (by decide) dX8_mend_128 ?_
  refine aw_iconst (v := 0) (by decide) dX8_mend_130 ?_
  refine aw_rV (As := [.int (nI l), .int 7, .int 0]) (S := []) (v := none) (o2 := (wd_w (wd_w o 8 (20 * l + 7) (-1)) 8 (20 * l + 8) 0)) (ct_X8_put (l := l) (w := 7) (by omega) (by decide)) (mm_fit_of cbX8_put (by decide) (by decide)) wq888 cvX8_put wv14 rfl rfl rfl (Nat.le_of_ble_eq_true rfl) (by decide) (by decide) rfl dX8_mend_131 ?_
  refine aw_aload_n (x := ad 14 0 0) rfl dX8_mend_134 ?_
  refine aw_iload_n (x := (nI l)) rfl dX8_mend_135 ?_
  refine aw_iconst (v := 0) (by decide) dX8_mend_136 ?_
  obtain ⟨o1, ho1⟩ : ∃ z, z = (wd_w (wd_w o 8 (20 * l + 7) (-1)) 8 (20 * l + 8) 0) := ⟨_, rfl⟩
  rw [← ho1]
  have Go1 : cg (o1.1 8) n m := by rw [ho1]; simp only [wd_w_row, row_self]; exact cg_upd (cg_upd (G) (by omega) (by omega) (fun _ _ => ⟨by omega, by omega⟩)) (by omega) (by omega) (fun _ _ => ⟨by omega, by omega⟩)
  refine aw_rV (As := [.int (nI l), .int 0]) (S := []) (v := some (.int (o1.1 8 (20 * l + 1)))) (o2 := o1) (ct_X8_of (l := l) (w := 0) (by omega) (by decide)) (mm_fit_of cbX8_of (by decide) (by decide)) wq969 cvX8_of wv14 rfl rfl rfl (Nat.le_of_ble_eq_true rfl) (by decide) (by decide) rfl dX8_mend_137 ?_
  refine aw_istore (L2 := [some (.ref (ad 14 0 0)), some (.int (nI l)), none, some (.int sp), some (.int a), some (.int (o1.1 8 (20 * l + 1)))]) (by decide) rfl rfl dX8_mend_140 ?_
  refine aw_iload (x := a) rfl dX8_mend_142 ?_
  refine aw_if_eq (tgt := 170) (by decide) dX8_mend_144 (fun b1 => ?_) (fun b1 => ?_)
  · skip
    refine aw_iload_n (x := sp) rfl dX8_mend_170 ?_
    exact aw_iret rfl (by decide) (by decide) dX8_mend_171 ⟨by (subst ho1; first | with_reducible rfl | (simp [mf_mt, oI, mR, wd_w_row, row_self, row_row, b1]; done) | (simp_all [mf_mt, oI, mR, wd_w_row, row_self, row_row, b1]; done) | (simp only [wd_w_row, row_self, row_row, i32_add0] at *; simp [mf_mt, oI, mR, wd_w_row, row_self, row_row, b1]; done)), by (subst ho1; first | with_reducible rfl | (simp [mf_mt, oI, mR, wd_w_row, row_self, row_row, b1]; done) | (simp_all [mf_mt, oI, mR, wd_w_row, row_self, row_row, b1]; done) | (simp only [wd_w_row, row_self, row_row, i32_add0] at *; simp [mf_mt, oI, mR, wd_w_row, row_self, row_row, b1]; done))⟩
  · skip
    refine aw_iload (x := (o1.1 8 (20 * l + 1))) rfl dX8_mend_147 ?_
    refine aw_iconst (v := 3) (by decide) dX8_mend_149 ?_
    refine aw_icmp_eq (tgt := 165) (by decide) dX8_mend_150 (fun b2 => ?_) (fun b2 => ?_)
    · skip
      refine aw_aload_n (x := ad 14 0 0) rfl dX8_mend_165 ?_
      refine aw_iload_n (x := (nI l)) rfl dX8_mend_166 ?_
      have E5 : o1.1 8 (20 * l + 5) = o.1 8 (20 * l + 5) := by rw [ho1]; simp only [wd_w_row, row_self]; rw [upd_ne _ _ (by omega), upd_ne _ _ (by omega)]
      refine aw_rV (As := [.int (nI l)]) (S := []) (v := none) (o2 := (wd_row o1 8 (mf_end (o1.1 8) m l e))) (ct_X8_ends Go1 (by omega) (by rw [E5]; exact he)) (mm_fit_of cbX8_ends (by decide) (by decide)) wq1033 cvX8_ends wv14 rfl rfl rfl (Nat.le_of_ble_eq_true rfl) (by decide) (by decide) rfl dX8_mend_167 ?_
      refine aw_iload_n (x := sp) rfl dX8_mend_170 ?_
      exact aw_iret rfl (by decide) (by decide) dX8_mend_171 ⟨by (subst ho1; first | with_reducible rfl | (simp [mf_mt, oI, mR, wd_w_row, row_self, row_row, b1, b2]; done) | (simp_all [mf_mt, oI, mR, wd_w_row, row_self, row_row, b1, b2]; done) | (simp only [wd_w_row, row_self, row_row, i32_add0] at *; simp [mf_mt, oI, mR, wd_w_row, row_self, row_row, b1, b2]; done)), by (subst ho1; first | with_reducible rfl | (simp [mf_mt, oI, mR, wd_w_row, row_self, row_row, b1, b2]; done) | (simp_all [mf_mt, oI, mR, wd_w_row, row_self, row_row, b1, b2]; done) | (simp only [wd_w_row, row_self, row_row, i32_add0] at *; simp [mf_mt, oI, mR, wd_w_row, row_self, row_row, b1, b2]; done))⟩
    · skip
      refine aw_iload (x := (o1.1 8 (20 * l + 1))) rfl dX8_mend_153 ?_
      refine aw_if_eq (tgt := 165) (by decide) dX8_mend_155 (fun b3 => ?_) (fun b3 => ?_)
      · skip
        refine aw_aload_n (x := ad 14 0 0) rfl dX8_mend_165 ?_
        refine aw_iload_n (x := (nI l)) rfl dX8_mend_166 ?_
        have E5 : o1.1 8 (20 * l + 5) = o.1 8 (20 * l + 5) := by rw [ho1]; simp only [wd_w_row, row_self]; rw [upd_ne _ _ (by omega), upd_ne _ _ (by omega)]
        refine aw_rV (As := [.int (nI l)]) (S := []) (v := none) (o2 := (wd_row o1 8 (mf_end (o1.1 8) m l e))) (ct_X8_ends Go1 (by omega) (by rw [E5]; exact he)) (mm_fit_of cbX8_ends (by decide) (by decide)) wq1033 cvX8_ends wv14 rfl rfl rfl (Nat.le_of_ble_eq_true rfl) (by decide) (by decide) rfl dX8_mend_167 ?_
        refine aw_iload_n (x := sp) rfl dX8_mend_170 ?_
        exact aw_iret rfl (by decide) (by decide) dX8_mend_171 ⟨by (subst ho1; first | with_reducible rfl | (simp [mf_mt, oI, mR, wd_w_row, row_self, row_row, b1, b2, b3]; done) | (simp_all [mf_mt, oI, mR, wd_w_row, row_self, row_row, b1, b2, b3]; done) | (simp only [wd_w_row, row_self, row_row, i32_add0] at *; simp [mf_mt, oI, mR, wd_w_row, row_self, row_row, b1, b2, b3]; done)), by (subst ho1; first | with_reducible rfl | (simp [mf_mt, oI, mR, wd_w_row, row_self, row_row, b1, b2, b3]; done) | (simp_all [mf_mt, oI, mR, wd_w_row, row_self, row_row, b1, b2, b3]; done) | (simp only [wd_w_row, row_self, row_row, i32_add0] at *; simp [mf_mt, oI, mR, wd_w_row, row_self, row_row, b1, b2, b3]; done))⟩
      · skip
        refine aw_iload (x := (o1.1 8 (20 * l + 1))) rfl dX8_mend_158 ?_
        refine aw_bipush (v := 7) (by decide) dX8_mend_160 ?_
        refine aw_icmp_ne (tgt := 170) (by decide) dX8_mend_162 (fun b4 => ?_) (fun b4 => ?_)
        · skip
          refine aw_iload_n (x := sp) rfl dX8_mend_170 ?_
          exact aw_iret rfl (by decide) (by decide) dX8_mend_171 ⟨by (subst ho1; first | with_reducible rfl | (simp [mf_mt, oI, mR, wd_w_row, row_self, row_row, b1, b2, b3, b4]; done) | (simp_all [mf_mt, oI, mR, wd_w_row, row_self, row_row, b1, b2, b3, b4]; done) | (simp only [wd_w_row, row_self, row_row, i32_add0] at *; simp [mf_mt, oI, mR, wd_w_row, row_self, row_row, b1, b2, b3, b4]; done)), by (subst ho1; first | with_reducible rfl | (simp [mf_mt, oI, mR, wd_w_row, row_self, row_row, b1, b2, b3, b4]; done) | (simp_all [mf_mt, oI, mR, wd_w_row, row_self, row_row, b1, b2, b3, b4]; done) | (simp only [wd_w_row, row_self, row_row, i32_add0] at *; simp [mf_mt, oI, mR, wd_w_row, row_self, row_row, b1, b2, b3, b4]; done))⟩
        · skip
          refine aw_aload_n (x := ad 14 0 0) rfl dX8_mend_165 ?_
          refine aw_iload_n (x := (nI l)) rfl dX8_mend_166 ?_
          have E5 : o1.1 8 (20 * l + 5) = o.1 8 (20 * l + 5) := by rw [ho1]; simp only [wd_w_row, row_self]; rw [upd_ne _ _ (by omega), upd_ne _ _ (by omega)]
          refine aw_rV (As := [.int (nI l)]) (S := []) (v := none) (o2 := (wd_row o1 8 (mf_end (o1.1 8) m l e))) (ct_X8_ends Go1 (by omega) (by rw [E5]; exact he)) (mm_fit_of cbX8_ends (by decide) (by decide)) wq1033 cvX8_ends wv14 rfl rfl rfl (Nat.le_of_ble_eq_true rfl) (by decide) (by decide) rfl dX8_mend_167 ?_
          refine aw_iload_n (x := sp) rfl dX8_mend_170 ?_
          exact aw_iret rfl (by decide) (by decide) dX8_mend_171 ⟨by (subst ho1; first | with_reducible rfl | (simp [mf_mt, oI, mR, wd_w_row, row_self, row_row, b1, b2, b3, b4]; done) | (simp_all [mf_mt, oI, mR, wd_w_row, row_self, row_row, b1, b2, b3, b4]; done) | (simp only [wd_w_row, row_self, row_row, i32_add0] at *; simp [mf_mt, oI, mR, wd_w_row, row_self, row_row, b1, b2, b3, b4]; done)), by (subst ho1; first | with_reducible rfl | (simp [mf_mt, oI, mR, wd_w_row, row_self, row_row, b1, b2, b3, b4]; done) | (simp_all [mf_mt, oI, mR, wd_w_row, row_self, row_row, b1, b2, b3, b4]; done) | (simp only [wd_w_row, row_self, row_row, i32_add0] at *; simp [mf_mt, oI, mR, wd_w_row, row_self, row_row, b1, b2, b3, b4]; done))⟩
def mf_mend (N : Nat → Int32) (m l e : Nat) : Nat → Int32 := mf_mt (mf_md l m 0 N 0).1 m l e (mf_md l m 0 N 0).2
def rf_mend (o : wd_S) (n m c : Nat) (x : Int32) : Out := match lk n x with
  | none => mR 1 o
  | some l => if o.1 8 (20 * l + 7) = -1 then mR 2 o else oI (o.1 8 (20 * l + 7)) (wd_row (mS o c) 8 (mf_mend (o.1 8) m l (nt (o.1 8 (20 * l + 5)))))
theorem rt_mend {ad : Nat → Nat → Nat → Nat} {o : wd_S} {n m c : Nat} (V : mv o n m c) (J : mi (o.1 8) n m) {x : Int32} : CT ad MX8_mend [.ref (ad 14 0 0), .int x] o (OT (rf_mend o n m c x)) := by
  obtain ⟨G, hk, hc⟩ := id V
  obtain ⟨g1, g2, g3, g4, g5, g6⟩ := id G
  refine CT.of (L := [some (.ref (ad 14 0 0)), some (.int x), none, none, none, none]) rfl rfl (by decide) (Nat.le_of_ble_eq_true rfl) rfl ?_
  refine aw_aload_n (x := ad 14 0 0) rfl dX8_mend_0 ?_
  refine aw_iload_n (x := x) rfl dX8_mend_1 ?_
  rcases k1 : lk n x with _ | l
  · skip
    refine aw_rV (As := [.int x]) (S := []) (v := some (.int 0)) (o2 := o) (ct_X8_isLoop_none G k1) (mm_fit_of cbX8_isLoop (by decide) (by decide)) wq941 cvX8_isLoop wv14 rfl rfl rfl (Nat.le_of_ble_eq_true rfl) (by decide) (by decide) rfl dX8_mend_2 ?_
    refine aw_istore_n (L2 := [some (.ref (ad 14 0 0)), some (.int x), some (.int 0), none, none, none]) (by decide) rfl rfl dX8_mend_5 ?_
    refine aw_aload_n (x := ad 14 0 0) rfl dX8_mend_6 ?_
    refine aw_iload_n (x := 0) rfl dX8_mend_7 ?_
    refine aw_if_ne (tgt := 15) (by decide) dX8_mend_8 (fun z => absurd z (by decide)) (fun _ => ?_)
    refine aw_iconst (v := 1) (by decide) dX8_mend_11 ?_
    refine aw_goto (tgt := 31) (by decide) dX8_mend_12 ?_
    refine aw_rV (As := [.int 1]) (S := []) (v := some (.int 1)) (o2 := (wd_w o 12 1 1)) (ct_refused_p (by decide)) (mm_fit_of cbX8_refused (by decide) (by decide)) wq922 cvX8_refused wv14 rfl rfl rfl (Nat.le_of_ble_eq_true rfl) (by decide) (by decide) rfl dX8_mend_31 ?_
    obtain ⟨o1, ho1⟩ : ∃ z, z = (wd_w o 12 1 1) := ⟨_, rfl⟩
    rw [← ho1]
    have Go1 : cg (o1.1 8) n m := by rw [ho1]; rw [wd_w_row, row_ne _ _ (by decide)]; exact G
    refine aw_if_eq (tgt := 39) (by decide) dX8_mend_34 (fun z => absurd z (by decide)) (fun _ => ?_)
    refine aw_iconst (v := 0) (by decide) dX8_mend_37 ?_
    exact aw_iret rfl (by decide) (by decide) dX8_mend_38 ⟨by (subst ho1; first | with_reducible rfl | (simp [rf_mend, mS, mS_8, oI, mR, oI, mR, wd_w_row, row_self, row_row, k1]; done) | (simp_all [rf_mend, mS, mS_8, oI, mR, oI, mR, wd_w_row, row_self, row_row, k1]; done) | (simp only [wd_w_row, row_self, row_row, i32_add0, row_ne _ _ (show (8 : Nat) ≠ 12 by decide)] at *; simp [rf_mend, mS, mS_8, oI, mR, oI, mR, wd_w_row, row_self, row_row, k1]; done)), by (subst ho1; first | with_reducible rfl | (simp [rf_mend, mS, mS_8, oI, mR, oI, mR, wd_w_row, row_self, row_row, k1]; done) | (simp_all [rf_mend, mS, mS_8, oI, mR, oI, mR, wd_w_row, row_self, row_row, k1]; done) | (simp only [wd_w_row, row_self, row_row, i32_add0, row_ne _ _ (show (8 : Nat) ≠ 12 by decide)] at *; simp [rf_mend, mS, mS_8, oI, mR, oI, mR, wd_w_row, row_self, row_row, k1]; done))⟩
  · skip
    obtain ⟨rfl, k1l⟩ := lk_some k1
    have k1b : l < 5 := by omega
    refine aw_rV (As := [.int (nI l)]) (S := []) (v := some (.int 1)) (o2 := o) (ct_X8_isLoop_some G k1) (mm_fit_of cbX8_isLoop (by decide) (by decide)) wq941 cvX8_isLoop wv14 rfl rfl rfl (Nat.le_of_ble_eq_true rfl) (by decide) (by decide) rfl dX8_mend_2 ?_
    refine aw_istore_n (L2 := [some (.ref (ad 14 0 0)), some (.int (nI l)), some (.int 1), none, none, none]) (by decide) rfl rfl dX8_mend_5 ?_
    refine aw_aload_n (x := ad 14 0 0) rfl dX8_mend_6 ?_
    refine aw_iload_n (x := 1) rfl dX8_mend_7 ?_
    refine aw_if_ne (tgt := 15) (by decide) dX8_mend_8 (fun _ => ?_) (fun z => absurd z (by decide))
    refine aw_aload_n (x := ad 14 0 0) rfl dX8_mend_15 ?_
    refine aw_iload_n (x := (nI l)) rfl dX8_mend_16 ?_
    refine aw_bipush (v := 6) (by decide) dX8_mend_17 ?_
    refine aw_rV (As := [.int (nI l), .int 6]) (S := [.ref (ad 14 0 0)]) (v := some (.int (o.1 8 (20 * l + 7)))) (o2 := o) (ct_X8_of (l := l) (w := 6) (by omega) (by decide)) (mm_fit_of cbX8_of (by decide) (by decide)) wq969 cvX8_of wv14 rfl rfl rfl (Nat.le_of_ble_eq_true rfl) (by decide) (by decide) rfl dX8_mend_19 ?_
    refine aw_iconst (v := (-1)) (by decide) dX8_mend_22 ?_
    refine aw_icmp_ne (tgt := 30) (by decide) dX8_mend_23 (fun b2 => ?_) (fun b2 => ?_)
    · skip
      refine aw_iconst (v := 0) (by decide) dX8_mend_30 ?_
      refine aw_rV (As := [.int 0]) (S := []) (v := some (.int 0)) (o2 := (wd_w o 12 1 0)) (ct_refused_0) (mm_fit_of cbX8_refused (by decide) (by decide)) wq922 cvX8_refused wv14 rfl rfl rfl (Nat.le_of_ble_eq_true rfl) (by decide) (by decide) rfl dX8_mend_31 ?_
      obtain ⟨o2, ho2⟩ : ∃ z, z = (wd_w o 12 1 0) := ⟨_, rfl⟩
      rw [← ho2]
      have Go2 : cg (o2.1 8) n m := by rw [ho2]; rw [wd_w_row, row_ne _ _ (by decide)]; exact G
      refine aw_if_eq (tgt := 39) (by decide) dX8_mend_34 (fun _ => ?_) (fun z => absurd z (by decide))
      refine aw_aload_n (x := ad 14 0 0) rfl dX8_mend_39 ?_
      refine aw_rV (As := []) (S := []) (v := none) (o2 := (ms_sv o2 c)) (ct_X8_saves (by rw [ho2, wd_get, if_neg (by decide)]; exact hk) hc) (mm_fit_of cbX8_saves (by decide) (by decide)) wq930 cvX8_saves wv14 rfl rfl rfl (Nat.le_of_ble_eq_true rfl) (by decide) (by decide) rfl dX8_mend_40 ?_
      obtain ⟨o3, ho3⟩ : ∃ z, z = (ms_sv o2 c) := ⟨_, rfl⟩
      rw [← ho3]
      have Go3 : cg (o3.1 8) n m := by rw [ho3]; rw [msv_ne (by decide) (by decide)]; exact Go2
      refine aw_aload_n (x := ad 14 0 0) rfl dX8_mend_43 ?_
      refine aw_iload_n (x := (nI l)) rfl dX8_mend_44 ?_
      refine aw_bipush (v := 6) (by decide) dX8_mend_45 ?_
      refine aw_rV (As := [.int (nI l), .int 6]) (S := []) (v := some (.int (o3.1 8 (20 * l + 7)))) (o2 := o3) (ct_X8_of (l := l) (w := 6) (by omega) (by decide)) (mm_fit_of cbX8_of (by decide) (by decide)) wq969 cvX8_of wv14 rfl rfl rfl (Nat.le_of_ble_eq_true rfl) (by decide) (by decide) rfl dX8_mend_47 ?_
      refine aw_istore_n (L2 := [some (.ref (ad 14 0 0)), some (.int (nI l)), some (.int 1), some (.int (o3.1 8 (20 * l + 7))), none, none]) (by decide) rfl rfl dX8_mend_50 ?_
      refine aw_iconst (v := 0) (by decide) dX8_mend_51 ?_
      refine aw_istore (L2 := [some (.ref (ad 14 0 0)), some (.int (nI l)), some (.int 1), some (.int (o3.1 8 (20 * l + 7))), some (.int 0), none]) (by decide) rfl rfl dX8_mend_52 ?_
      refine aw_iconst (v := 0) (by decide) dX8_mend_54 ?_
      refine aw_istore (L2 := [some (.ref (ad 14 0 0)), some (.int (nI l)), some (.int 1), some (.int (o3.1 8 (20 * l + 7))), some (.int 0), some (.int 0)]) (by decide) rfl rfl dX8_mend_55 ?_
      have E8 : o3.1 8 = o.1 8 := by rw [ho3]; rw [msv_ne (by decide) (by decide)]; rw [ho2]; rw [wd_w_row, row_ne _ _ (by decide)]
      refine AW.locs (lp_X8_md (sp := o3.1 8 (20 * l + 7)) (by omega) m 0 o3 0 (by omega) Go3 ?_) (lsub_keep (lsub_keep (lsub_none (lsub_keep (lsub_keep (lsub_keep lsub_nil))))))
      rw [E8]
      have Gm : cg ((wd_row o3 8 (mf_md l m 0 (o.1 8) 0).1).1 8) n m := by rw [row_self]; exact cg_stl (stl_md _ _ _ _) G
      refine AW.post (tl_X8_mend (e := nt (o.1 8 (20 * l + 5))) Gm (by omega) (by rw [row_self, md_lo (by omega)]; exact mi_oth J (by omega))) (fun r o2 q => ?_)
      rw [row_self, row_row] at q
      try rw [E8] at q
      subst ho3; subst ho2; simpa [rf_mend, mf_mend, mS, k1, b2, OT, oI, RT] using q
    · skip
      refine aw_iconst (v := 2) (by decide) dX8_mend_26 ?_
      refine aw_goto (tgt := 31) (by decide) dX8_mend_27 ?_
      refine aw_rV (As := [.int 2]) (S := []) (v := some (.int 1)) (o2 := (wd_w o 12 1 2)) (ct_refused_p (by decide)) (mm_fit_of cbX8_refused (by decide) (by decide)) wq922 cvX8_refused wv14 rfl rfl rfl (Nat.le_of_ble_eq_true rfl) (by decide) (by decide) rfl dX8_mend_31 ?_
      obtain ⟨o4, ho4⟩ : ∃ z, z = (wd_w o 12 1 2) := ⟨_, rfl⟩
      rw [← ho4]
      have Go4 : cg (o4.1 8) n m := by rw [ho4]; rw [wd_w_row, row_ne _ _ (by decide)]; exact G
      refine aw_if_eq (tgt := 39) (by decide) dX8_mend_34 (fun z => absurd z (by decide)) (fun _ => ?_)
      refine aw_iconst (v := 0) (by decide) dX8_mend_37 ?_
      exact aw_iret rfl (by decide) (by decide) dX8_mend_38 ⟨by (subst ho4; first | with_reducible rfl | (simp [rf_mend, mS, mS_8, oI, mR, oI, mR, wd_w_row, row_self, row_row, k1, b2]; done) | (simp_all [rf_mend, mS, mS_8, oI, mR, oI, mR, wd_w_row, row_self, row_row, k1, b2]; done) | (simp only [wd_w_row, row_self, row_row, i32_add0, row_ne _ _ (show (8 : Nat) ≠ 12 by decide)] at *; simp [rf_mend, mS, mS_8, oI, mR, oI, mR, wd_w_row, row_self, row_row, k1, b2]; done)), by (subst ho4; first | with_reducible rfl | (simp [rf_mend, mS, mS_8, oI, mR, oI, mR, wd_w_row, row_self, row_row, k1, b2]; done) | (simp_all [rf_mend, mS, mS_8, oI, mR, oI, mR, wd_w_row, row_self, row_row, k1, b2]; done) | (simp only [wd_w_row, row_self, row_row, i32_add0, row_ne _ _ (show (8 : Nat) ≠ 12 by decide)] at *; simp [rf_mend, mS, mS_8, oI, mR, oI, mR, wd_w_row, row_self, row_row, k1, b2]; done))⟩
