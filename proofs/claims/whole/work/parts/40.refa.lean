/-! the reference: tests -/
def wt3 (o : wd_S) (T : TT) : wd_S := wd_row (wd_row o 10 T.1) 11 T.2
theorem wt3_6 (o : wd_S) (T : TT) : (wt3 o T).1 10 = T.1 := by simp [wt3, wd_row]
theorem wt3_7 (o : wd_S) (T : TT) : (wt3 o T).1 11 = T.2 := by simp [wt3, wd_row]
theorem wt3_ne (o : wd_S) (T : TT) {r : Nat} (h : r ≠ 10) (h2 : r ≠ 11) : (wt3 o T).1 r = o.1 r := by simp [wt3, wd_row, h, h2]
theorem wt3_wt3 (o : wd_S) (T U : TT) : wt3 (wt3 o T) U = wt3 o U := by
  refine Prod.ext (funext fun r => ?_) rfl
  by_cases h : r = 11
  · subst h; rw [wt3_7, wt3_7]
  · by_cases h6 : r = 10
    · subst h6; rw [wt3_6, wt3_6]
    · rw [wt3_ne _ _ h6 h, wt3_ne _ _ h6 h, wt3_ne _ _ h6 h]
theorem wt3_id (o : wd_S) : wt3 o (o.1 10, o.1 11) = o := by
  refine Prod.ext (funext fun r => ?_) rfl
  by_cases h : r = 11
  · subst h; rw [wt3_7]
  · by_cases h6 : r = 10
    · subst h6; rw [wt3_6]
    · rw [wt3_ne _ _ h6 h]
theorem wt3_put (o : wd_S) (x : Nat) (c w : Int32) : wd_w (wd_w o 10 x c) 11 x w = wt3 o (tt_put (o.1 10, o.1 11) x c w) := by
  rw [wd_w_row, wd_w_row, row_ne _ _ (show (11 : Nat) ≠ 10 by decide)]
  rfl
theorem rk_ix (l i : Nat) : 20 * l + (7 + i) + 1 = 20 * l + 8 + i := by omega
theorem sumF_last (R : Nat → Int32) : ∀ (d a : Nat), sumF R (d + 1) a = R (a + d) + sumF R d a
  | 0, a => by simp [sumF]
  | d + 1, a => by
    rw [sumF, sumF_last R d (a + 1), show a + 1 + d = a + (d + 1) by omega]
    conv => rhs; rw [sumF]
    rw [← Int32.add_assoc, ← Int32.add_assoc, Int32.add_comm (R a)]
/-- the cost as the reference writes it -/
theorem pr_ref (R : Nat → Int32) (T : TT) {a b d : Nat} (h : b = a + d) (hd : d < 100) (ha : a < 100) : cs_pr R T a b = tt_put T (13 * a + b) (if nI d = 0 then 0 else sumF R (d + 1) a + (dpf (dpr T.1 a b) d a 0 (-1)).1) (dpf (dpr T.1 a b) d a 0 (-1)).2 := by
  subst h
  unfold cs_pr
  rw [show a + d - a = d by omega, sumF_last]
  by_cases hz : d = 0
  · subst hz
    rw [if_pos (show (nI 0 : Int32) = 0 by decide)]
    rfl
  · obtain ⟨k, rfl⟩ : ∃ k, d = k + 1 := ⟨d - 1, by omega⟩
    obtain ⟨j, h1, h2, h3⟩ := dpf_r1 (f := dpr T.1 a (a + (k + 1))) k a 0
    rw [if_neg (nI_ne0 (by omega) (by omega))]
    rw [if_neg (show ¬ (dpf (dpr T.1 a (a + (k + 1))) (k + 1) a 0 (-1)).2 = -1 by rw [h3]; exact nI_m1 (by omega))]
theorem lp_lt_s {ad : Nat → Nat → Nat → Nat} {o : wd_S} {F : (Option Value ⊕ String) → wd_S → Prop} {l d a b : Nat} (hl : l < 5) (ha : 1 ≤ a) (hab : a ≤ b) (hb : b ≤ 12) : ∀ (k i : Nat) (z : Int32), i + k = b + 1 → (a ≤ i) → (AW ad MX8_laysTests 59 [some (.ref (ad 14 0 0)), some (.int (nI l)), some (.int (nI d)), some (.int (nI a)), some (.int (nI b)), some (.int (z + sumF (cs_rk (o.1 8) l) k i)), none, none, none, none] [] o 0 0 F) → AW ad MX8_laysTests 29 [some (.ref (ad 14 0 0)), some (.int (nI l)), some (.int (nI d)), some (.int (nI a)), some (.int (nI b)), some (.int z), some (.int (nI i)), none, none, none] [] o 0 0 F := by
  intro k
  induction k with
  | zero =>
    intro i z hk hi K
    refine aw_iload (x := (nI i)) rfl dX8_laysTests_29 ?_
    refine aw_iload (x := (nI b)) rfl dX8_laysTests_31 ?_
    refine aw_icmp_gt (tgt := 59) (by decide) dX8_laysTests_33 (fun _ => ?_) (fun z => absurd (nI_lt (by omega) (by omega)) z)
    exact AW.locs (by simpa only [sumF, i32_add0] using K) (lsub_keep (lsub_keep (lsub_keep (lsub_keep (lsub_keep (lsub_keep (lsub_none (lsub_keep (lsub_keep (lsub_keep lsub_nil))))))))))
  | succ k ih =>
    intro i z hk hi K
    refine aw_iload (x := (nI i)) rfl dX8_laysTests_29 ?_
    refine aw_iload (x := (nI b)) rfl dX8_laysTests_31 ?_
    refine aw_icmp_gt (tgt := 59) (by decide) dX8_laysTests_33 (fun z => absurd z (nI_nlt (by omega) (by omega))) (fun _ => ?_)
    refine aw_iload (x := z) rfl dX8_laysTests_36 ?_
    refine aw_aload_n (x := ad 14 0 0) rfl dX8_laysTests_38 ?_
    refine aw_iload_n (x := (nI l)) rfl dX8_laysTests_39 ?_
    refine aw_bipush (v := 8) (by decide) dX8_laysTests_40 ?_
    refine aw_iload (x := (nI i)) rfl dX8_laysTests_42 ?_
    refine aw_iaddz (z := nI (8 + i)) (nI_add 8 i) dX8_laysTests_44 ?_
    refine aw_iconst (v := 1) (by decide) dX8_laysTests_45 ?_
    refine aw_isubz (z := nI (7 + i)) (nI_87 i) dX8_laysTests_46 ?_
    refine aw_rV (As := [.int (nI l), .int (nI (7 + i))]) (S := [.int z]) (v := some (.int (o.1 8 (20 * l + (7 + i) + 1)))) (o2 := o) (ct_X8_of (l := l) (w := 7 + i) (by omega) (by omega)) (mm_fit_of cbX8_of (by decide) (by decide)) wq969 cvX8_of wv14 rfl rfl rfl (Nat.le_of_ble_eq_true rfl) (by decide) (by decide) rfl dX8_laysTests_47 ?_
    refine aw_iaddz (z := z + (o.1 8 (20 * l + (7 + i) + 1))) rfl dX8_laysTests_50 ?_
    refine aw_istore (L2 := [some (.ref (ad 14 0 0)), some (.int (nI l)), some (.int (nI d)), some (.int (nI a)), some (.int (nI b)), some (.int (z + (o.1 8 (20 * l + (7 + i) + 1)))), some (.int (nI i)), none, none, none]) (by decide) rfl rfl dX8_laysTests_51 ?_
    refine aw_iinc (n := 1) (x := (nI i)) (v := nI (i + 1)) (L2 := [some (.ref (ad 14 0 0)), some (.int (nI l)), some (.int (nI d)), some (.int (nI a)), some (.int (nI b)), some (.int (z + (o.1 8 (20 * l + (7 + i) + 1)))), some (.int (nI (i + 1))), none, none, none]) rfl (nI_1 i) (by decide) rfl rfl dX8_laysTests_53 ?_
    refine aw_goto (tgt := 29) (by decide) dX8_laysTests_56 ?_
    exact AW.locs (ih (i + 1) (z + (o.1 8 (20 * l + (7 + i) + 1))) (by omega) (by omega) (by simpa only [sumF, sumF_acc, cs_rk, rk_ix] using K)) (lsub_keep (lsub_keep (lsub_keep (lsub_keep (lsub_keep (lsub_keep (lsub_keep (lsub_keep (lsub_keep (lsub_keep lsub_nil))))))))))
theorem lp_lt_b {ad : Nat → Nat → Nat → Nat} {o : wd_S} {F : (Option Value ⊕ String) → wd_S → Prop} {l d a b : Nat} (hl : l < 5) (ha : 1 ≤ a) (hab : a ≤ b) (hb : b ≤ 12) {z : Int32} : ∀ (k i : Nat) (w : Int32) (le : Int32), i + k = b → (a ≤ i) → (AW ad MX8_laysTests 132 [some (.ref (ad 14 0 0)), some (.int (nI l)), some (.int (nI d)), some (.int (nI a)), some (.int (nI b)), some (.int z), some (.int ((dpf (dpr (o.1 10) a b) k i le w).2)), some (.int ((dpf (dpr (o.1 10) a b) k i le w).1)), none, none] [] o 0 0 F) → AW ad MX8_laysTests 68 [some (.ref (ad 14 0 0)), some (.int (nI l)), some (.int (nI d)), some (.int (nI a)), some (.int (nI b)), some (.int z), some (.int w), some (.int le), some (.int (nI i)), none] [] o 0 0 F := by
  intro k
  induction k with
  | zero =>
    intro i w le hk hi K
    refine aw_iload (x := (nI i)) rfl dX8_laysTests_68 ?_
    refine aw_iload (x := (nI b)) rfl dX8_laysTests_70 ?_
    refine aw_icmp_ge (tgt := 132) (by decide) dX8_laysTests_72 (fun _ => ?_) (fun z => absurd (nI_le (by omega) (by omega)) z)
    exact AW.locs (by simpa only [dpf] using K) (lsub_keep (lsub_keep (lsub_keep (lsub_keep (lsub_keep (lsub_keep (lsub_keep (lsub_keep (lsub_none (lsub_keep lsub_nil))))))))))
  | succ k ih =>
    intro i w le hk hi K
    refine aw_iload (x := (nI i)) rfl dX8_laysTests_68 ?_
    refine aw_iload (x := (nI b)) rfl dX8_laysTests_70 ?_
    refine aw_icmp_ge (tgt := 132) (by decide) dX8_laysTests_72 (fun z => absurd z (nI_ge (by omega) (by omega))) (fun _ => ?_)
    refine aw_aload_n (x := ad 14 0 0) rfl dX8_laysTests_75 ?_
    refine aw_getr (q := (15, 0, 2)) wv14 rfl flX8_16 rfl rfl dX8_laysTests_76 ?_
    refine aw_bipush (v := 13) (by decide) dX8_laysTests_79 ?_
    refine aw_iload_n (x := (nI a)) rfl dX8_laysTests_81 ?_
    refine aw_imulz (z := nI (13 * a)) (nI_mul 13 a) dX8_laysTests_82 ?_
    refine aw_iload (x := (nI i)) rfl dX8_laysTests_83 ?_
    refine aw_iaddz (z := nI (13 * a + i)) (nI_add (13 * a) i) dX8_laysTests_85 ?_
    refine aw_ild (x := 13 * a + i) (q := (10, 13 * a + i)) (y := o.1 10 (13 * a + i)) rfl (wv15 (by decide)) (wi15 (by show _ < 169; omega)) rfl (by show _ < 169; omega) rfl dX8_laysTests_86 ?_
    refine aw_aload_n (x := ad 14 0 0) rfl dX8_laysTests_87 ?_
    refine aw_getr (q := (15, 0, 2)) wv14 rfl flX8_16 rfl rfl dX8_laysTests_88 ?_
    refine aw_bipush (v := 13) (by decide) dX8_laysTests_91 ?_
    refine aw_iload (x := (nI i)) rfl dX8_laysTests_93 ?_
    refine aw_iconst (v := 1) (by decide) dX8_laysTests_95 ?_
    refine aw_iaddz (z := nI (i + 1)) (nI_add i 1) dX8_laysTests_96 ?_
    refine aw_imulz (z := nI (13 * (i + 1))) (nI_mul 13 (i + 1)) dX8_laysTests_97 ?_
    refine aw_iload (x := (nI b)) rfl dX8_laysTests_98 ?_
    refine aw_iaddz (z := nI (13 * (i + 1) + b)) (nI_add (13 * (i + 1)) b) dX8_laysTests_100 ?_
    refine aw_ild (x := 13 * (i + 1) + b) (q := (10, 13 * (i + 1) + b)) (y := o.1 10 (13 * (i + 1) + b)) rfl (wv15 (by decide)) (wi15 (by show _ < 169; omega)) rfl (by show _ < 169; omega) rfl dX8_laysTests_101 ?_
    refine aw_iaddz (z := (o.1 10 (13 * a + i)) + (o.1 10 (13 * (i + 1) + b))) rfl dX8_laysTests_102 ?_
    refine aw_istore (L2 := [some (.ref (ad 14 0 0)), some (.int (nI l)), some (.int (nI d)), some (.int (nI a)), some (.int (nI b)), some (.int z), some (.int w), some (.int le), some (.int (nI i)), some (.int ((o.1 10 (13 * a + i)) + (o.1 10 (13 * (i + 1) + b))))]) (by decide) rfl rfl dX8_laysTests_103 ?_
    refine aw_iload (x := w) rfl dX8_laysTests_105 ?_
    refine aw_iconst (v := (-1)) (by decide) dX8_laysTests_107 ?_
    refine aw_icmp_eq (tgt := 118) (by decide) dX8_laysTests_108 (fun b1 => ?_) (fun b1 => ?_)
    · skip
      refine aw_iload (x := (nI i)) rfl dX8_laysTests_118 ?_
      refine aw_istore (L2 := [some (.ref (ad 14 0 0)), some (.int (nI l)), some (.int (nI d)), some (.int (nI a)), some (.int (nI b)), some (.int z), some (.int (nI i)), some (.int le), some (.int (nI i)), some (.int ((o.1 10 (13 * a + i)) + (o.1 10 (13 * (i + 1) + b))))]) (by decide) rfl rfl dX8_laysTests_120 ?_
      refine aw_iload (x := ((o.1 10 (13 * a + i)) + (o.1 10 (13 * (i + 1) + b)))) rfl dX8_laysTests_122 ?_
      refine aw_istore (L2 := [some (.ref (ad 14 0 0)), some (.int (nI l)), some (.int (nI d)), some (.int (nI a)), some (.int (nI b)), some (.int z), some (.int (nI i)), some (.int ((o.1 10 (13 * a + i)) + (o.1 10 (13 * (i + 1) + b)))), some (.int (nI i)), some (.int ((o.1 10 (13 * a + i)) + (o.1 10 (13 * (i + 1) + b))))]) (by decide) rfl rfl dX8_laysTests_124 ?_
      refine aw_iinc (n := 1) (x := (nI i)) (v := nI (i + 1)) (L2 := [some (.ref (ad 14 0 0)), some (.int (nI l)), some (.int (nI d)), some (.int (nI a)), some (.int (nI b)), some (.int z), some (.int (nI i)), some (.int ((o.1 10 (13 * a + i)) + (o.1 10 (13 * (i + 1) + b)))), some (.int (nI (i + 1))), some (.int ((o.1 10 (13 * a + i)) + (o.1 10 (13 * (i + 1) + b))))]) rfl (nI_1 i) (by decide) rfl rfl dX8_laysTests_126 ?_
      refine aw_goto (tgt := 68) (by decide) dX8_laysTests_129 ?_
      exact AW.locs (ih (i + 1) (nI i) ((o.1 10 (13 * a + i)) + (o.1 10 (13 * (i + 1) + b))) (by omega) (by omega) (by simpa [dpf, dpr, b1] using K)) (lsub_keep (lsub_keep (lsub_keep (lsub_keep (lsub_keep (lsub_keep (lsub_keep (lsub_keep (lsub_keep (lsub_none lsub_nil))))))))))
    · skip
      refine aw_iload (x := ((o.1 10 (13 * a + i)) + (o.1 10 (13 * (i + 1) + b)))) rfl dX8_laysTests_111 ?_
      refine aw_iload (x := le) rfl dX8_laysTests_113 ?_
      refine aw_icmp_ge (tgt := 126) (by decide) dX8_laysTests_115 (fun b2 => ?_) (fun b2 => ?_)
      · skip
        refine aw_iinc (n := 1) (x := (nI i)) (v := nI (i + 1)) (L2 := [some (.ref (ad 14 0 0)), some (.int (nI l)), some (.int (nI d)), some (.int (nI a)), some (.int (nI b)), some (.int z), some (.int w), some (.int le), some (.int (nI (i + 1))), some (.int ((o.1 10 (13 * a + i)) + (o.1 10 (13 * (i + 1) + b))))]) rfl (nI_1 i) (by decide) rfl rfl dX8_laysTests_126 ?_
        refine aw_goto (tgt := 68) (by decide) dX8_laysTests_129 ?_
        exact AW.locs (ih (i + 1) w le (by omega) (by omega) (by simpa [dpf, dpr, b1, b2] using K)) (lsub_keep (lsub_keep (lsub_keep (lsub_keep (lsub_keep (lsub_keep (lsub_keep (lsub_keep (lsub_keep (lsub_none lsub_nil))))))))))
      · skip
        refine aw_iload (x := (nI i)) rfl dX8_laysTests_118 ?_
        refine aw_istore (L2 := [some (.ref (ad 14 0 0)), some (.int (nI l)), some (.int (nI d)), some (.int (nI a)), some (.int (nI b)), some (.int z), some (.int (nI i)), some (.int le), some (.int (nI i)), some (.int ((o.1 10 (13 * a + i)) + (o.1 10 (13 * (i + 1) + b))))]) (by decide) rfl rfl dX8_laysTests_120 ?_
        refine aw_iload (x := ((o.1 10 (13 * a + i)) + (o.1 10 (13 * (i + 1) + b)))) rfl dX8_laysTests_122 ?_
        refine aw_istore (L2 := [some (.ref (ad 14 0 0)), some (.int (nI l)), some (.int (nI d)), some (.int (nI a)), some (.int (nI b)), some (.int z), some (.int (nI i)), some (.int ((o.1 10 (13 * a + i)) + (o.1 10 (13 * (i + 1) + b)))), some (.int (nI i)), some (.int ((o.1 10 (13 * a + i)) + (o.1 10 (13 * (i + 1) + b))))]) (by decide) rfl rfl dX8_laysTests_124 ?_
        refine aw_iinc (n := 1) (x := (nI i)) (v := nI (i + 1)) (L2 := [some (.ref (ad 14 0 0)), some (.int (nI l)), some (.int (nI d)), some (.int (nI a)), some (.int (nI b)), some (.int z), some (.int (nI i)), some (.int ((o.1 10 (13 * a + i)) + (o.1 10 (13 * (i + 1) + b)))), some (.int (nI (i + 1))), some (.int ((o.1 10 (13 * a + i)) + (o.1 10 (13 * (i + 1) + b))))]) rfl (nI_1 i) (by decide) rfl rfl dX8_laysTests_126 ?_
        refine aw_goto (tgt := 68) (by decide) dX8_laysTests_129 ?_
        exact AW.locs (ih (i + 1) (nI i) ((o.1 10 (13 * a + i)) + (o.1 10 (13 * (i + 1) + b))) (by omega) (by omega) (by simpa [dpf, dpr, b1, b2] using K)) (lsub_keep (lsub_keep (lsub_keep (lsub_keep (lsub_keep (lsub_keep (lsub_keep (lsub_keep (lsub_keep (lsub_none lsub_nil))))))))))
theorem lt_run {ad : Nat → Nat → Nat → Nat} {o : wd_S} {F : (Option Value ⊕ String) → wd_S → Prop} {l d a : Nat} (hl : l < 5) (ha : 1 ≤ a) (had : a + d ≤ 12) (K : AW ad MX8_laysTests 171 [some (.ref (ad 14 0 0)), some (.int (nI l)), some (.int (nI d)), some (.int (nI a)), none, none, none, none, none, none] [] (wt3 o (cs_pr (cs_rk (o.1 8) l) (o.1 10, o.1 11) a (a + d))) 0 0 F) : AW ad MX8_laysTests 18 [some (.ref (ad 14 0 0)), some (.int (nI l)), some (.int (nI d)), some (.int (nI a)), none, none, none, none, none, none] [] o 0 0 F := by
  refine aw_iload_n (x := (nI a)) rfl dX8_laysTests_18 ?_
  refine aw_iload_n (x := (nI d)) rfl dX8_laysTests_19 ?_
  refine aw_iaddz (z := nI (a + d)) (nI_add a d) dX8_laysTests_20 ?_
  refine aw_istore (L2 := [some (.ref (ad 14 0 0)), some (.int (nI l)), some (.int (nI d)), some (.int (nI a)), some (.int (nI (a + d))), none, none, none, none, none]) (by decide) rfl rfl dX8_laysTests_21 ?_
  refine aw_iconst (v := 0) (by decide) dX8_laysTests_23 ?_
  refine aw_istore (L2 := [some (.ref (ad 14 0 0)), some (.int (nI l)), some (.int (nI d)), some (.int (nI a)), some (.int (nI (a + d))), some (.int 0), none, none, none, none]) (by decide) rfl rfl dX8_laysTests_24 ?_
  refine aw_iload_n (x := (nI a)) rfl dX8_laysTests_26 ?_
  refine aw_istore (L2 := [some (.ref (ad 14 0 0)), some (.int (nI l)), some (.int (nI d)), some (.int (nI a)), some (.int (nI (a + d))), some (.int 0), some (.int (nI a)), none, none, none]) (by decide) rfl rfl dX8_laysTests_27 ?_
  refine AW.locs (lp_lt_s (b := a + d) hl ha (by omega) had (d + 1) a 0 (by omega) (Nat.le_refl a) ?_) (lsub_keep (lsub_keep (lsub_keep (lsub_keep (lsub_keep (lsub_keep (lsub_keep (lsub_keep (lsub_keep (lsub_keep lsub_nil))))))))))
  refine aw_iconst (v := (-1)) (by decide) dX8_laysTests_59 ?_
  refine aw_istore (L2 := [some (.ref (ad 14 0 0)), some (.int (nI l)), some (.int (nI d)), some (.int (nI a)), some (.int (nI (a + d))), some (.int (0 + sumF (cs_rk (o.1 8) l) (d + 1) a)), some (.int (-1)), none, none, none]) (by decide) rfl rfl dX8_laysTests_60 ?_
  refine aw_iconst (v := 0) (by decide) dX8_laysTests_62 ?_
  refine aw_istore (L2 := [some (.ref (ad 14 0 0)), some (.int (nI l)), some (.int (nI d)), some (.int (nI a)), some (.int (nI (a + d))), some (.int (0 + sumF (cs_rk (o.1 8) l) (d + 1) a)), some (.int (-1)), some (.int 0), none, none]) (by decide) rfl rfl dX8_laysTests_63 ?_
  refine aw_iload_n (x := (nI a)) rfl dX8_laysTests_65 ?_
  refine aw_istore (L2 := [some (.ref (ad 14 0 0)), some (.int (nI l)), some (.int (nI d)), some (.int (nI a)), some (.int (nI (a + d))), some (.int (0 + sumF (cs_rk (o.1 8) l) (d + 1) a)), some (.int (-1)), some (.int 0), some (.int (nI a)), none]) (by decide) rfl rfl dX8_laysTests_66 ?_
  refine AW.locs (lp_lt_b (b := a + d) (z := 0 + sumF (cs_rk (o.1 8) l) (d + 1) a) hl ha (by omega) had d a (-1) 0 (by omega) (Nat.le_refl a) ?_) (lsub_keep (lsub_keep (lsub_keep (lsub_keep (lsub_keep (lsub_keep (lsub_keep (lsub_keep (lsub_keep (lsub_keep lsub_nil))))))))))
  refine aw_aload_n (x := ad 14 0 0) rfl dX8_laysTests_132 ?_
  refine aw_getr (q := (15, 0, 2)) wv14 rfl flX8_16 rfl rfl dX8_laysTests_133 ?_
  refine aw_bipush (v := 13) (by decide) dX8_laysTests_136 ?_
  refine aw_iload_n (x := (nI a)) rfl dX8_laysTests_138 ?_
  refine aw_imulz (z := nI (13 * a)) (nI_mul 13 a) dX8_laysTests_139 ?_
  refine aw_iload (x := (nI (a + d))) rfl dX8_laysTests_140 ?_
  refine aw_iaddz (z := nI (13 * a + (a + d))) (nI_add (13 * a) (a + d)) dX8_laysTests_142 ?_
  refine aw_iload_n (x := (nI d)) rfl dX8_laysTests_143 ?_
  refine aw_if_ne (tgt := 151) (by decide) dX8_laysTests_144 (fun b1 => ?_) (fun b1 => ?_)
  · skip
    refine aw_iload (x := (0 + sumF (cs_rk (o.1 8) l) (d + 1) a)) rfl dX8_laysTests_151 ?_
    refine aw_iload (x := ((dpf (dpr (o.1 10) a (a + d)) d a 0 (-1)).1)) rfl dX8_laysTests_153 ?_
    refine aw_iaddz (z := (0 + sumF (cs_rk (o.1 8) l) (d + 1) a) + ((dpf (dpr (o.1 10) a (a + d)) d a 0 (-1)).1)) rfl dX8_laysTests_155 ?_
    refine aw_ist (x := 13 * a + (a + d)) (q := (10, 13 * a + (a + d))) (y := (0 + sumF (cs_rk (o.1 8) l) (d + 1) a) + ((dpf (dpr (o.1 10) a (a + d)) d a 0 (-1)).1)) rfl (wv15 (by decide)) (wi15 (by show _ < 169; omega)) (by show _ < 169; omega) rfl dX8_laysTests_156 ?_
    refine aw_aload_n (x := ad 14 0 0) rfl dX8_laysTests_157 ?_
    refine aw_getr (q := (15, 0, 3)) wv14 rfl flX8_19 rfl rfl dX8_laysTests_158 ?_
    refine aw_bipush (v := 13) (by decide) dX8_laysTests_161 ?_
    refine aw_iload_n (x := (nI a)) rfl dX8_laysTests_163 ?_
    refine aw_imulz (z := nI (13 * a)) (nI_mul 13 a) dX8_laysTests_164 ?_
    refine aw_iload (x := (nI (a + d))) rfl dX8_laysTests_165 ?_
    refine aw_iaddz (z := nI (13 * a + (a + d))) (nI_add (13 * a) (a + d)) dX8_laysTests_167 ?_
    refine aw_iload (x := ((dpf (dpr (o.1 10) a (a + d)) d a 0 (-1)).2)) rfl dX8_laysTests_168 ?_
    refine aw_ist (x := 13 * a + (a + d)) (q := (11, 13 * a + (a + d))) (y := (dpf (dpr (o.1 10) a (a + d)) d a 0 (-1)).2) rfl (wv15 (by decide)) (wi15 (by show _ < 169; omega)) (by show _ < 169; omega) rfl dX8_laysTests_170 ?_
    rw [pr_ref _ _ rfl (by omega) (by omega)] at K
    refine AW.locs ?_ (lsub_keep (lsub_keep (lsub_keep (lsub_keep (lsub_none (lsub_none (lsub_none (lsub_none (lsub_keep (lsub_keep lsub_nil))))))))))
    rw [wt3_put]
    simpa [b1] using K
  · skip
    refine aw_iconst (v := 0) (by decide) dX8_laysTests_147 ?_
    refine aw_goto (tgt := 156) (by decide) dX8_laysTests_148 ?_
    refine aw_ist (x := 13 * a + (a + d)) (q := (10, 13 * a + (a + d))) (y := 0) rfl (wv15 (by decide)) (wi15 (by show _ < 169; omega)) (by show _ < 169; omega) rfl dX8_laysTests_156 ?_
    refine aw_aload_n (x := ad 14 0 0) rfl dX8_laysTests_157 ?_
    refine aw_getr (q := (15, 0, 3)) wv14 rfl flX8_19 rfl rfl dX8_laysTests_158 ?_
    refine aw_bipush (v := 13) (by decide) dX8_laysTests_161 ?_
    refine aw_iload_n (x := (nI a)) rfl dX8_laysTests_163 ?_
    refine aw_imulz (z := nI (13 * a)) (nI_mul 13 a) dX8_laysTests_164 ?_
    refine aw_iload (x := (nI (a + d))) rfl dX8_laysTests_165 ?_
    refine aw_iaddz (z := nI (13 * a + (a + d))) (nI_add (13 * a) (a + d)) dX8_laysTests_167 ?_
    refine aw_iload (x := ((dpf (dpr (o.1 10) a (a + d)) d a 0 (-1)).2)) rfl dX8_laysTests_168 ?_
    refine aw_ist (x := 13 * a + (a + d)) (q := (11, 13 * a + (a + d))) (y := (dpf (dpr (o.1 10) a (a + d)) d a 0 (-1)).2) rfl (wv15 (by decide)) (wi15 (by show _ < 169; omega)) (by show _ < 169; omega) rfl dX8_laysTests_170 ?_
    rw [pr_ref _ _ rfl (by omega) (by omega)] at K
    refine AW.locs ?_ (lsub_keep (lsub_keep (lsub_keep (lsub_keep (lsub_none (lsub_none (lsub_none (lsub_none (lsub_keep (lsub_keep lsub_nil))))))))))
    rw [wt3_put]
    simpa [b1] using K
theorem lp_lt_a {ad : Nat → Nat → Nat → Nat} {F : (Option Value ⊕ String) → wd_S → Prop} {l d : Nat} {R : Nat → Int32} (hl : l < 5) : ∀ (k i : Nat) (o : wd_S) , i + k + d = 13 → (1 ≤ i) → (cs_rk (o.1 8) l = R) → (AW ad MX8_laysTests 177 [some (.ref (ad 14 0 0)), some (.int (nI l)), some (.int (nI d)), none, none, none, none, none, none, none] [] (wt3 o (cs_pl2 R d k i (o.1 10, o.1 11))) 0 0 F) → AW ad MX8_laysTests 10 [some (.ref (ad 14 0 0)), some (.int (nI l)), some (.int (nI d)), some (.int (nI i)), none, none, none, none, none, none] [] o 0 0 F := by
  intro k
  induction k with
  | zero =>
    intro i o hk hi hR K
    refine aw_iload_n (x := (nI i)) rfl dX8_laysTests_10 ?_
    refine aw_iload_n (x := (nI d)) rfl dX8_laysTests_11 ?_
    refine aw_iaddz (z := nI (i + d)) (nI_add i d) dX8_laysTests_12 ?_
    refine aw_bipush (v := 12) (by decide) dX8_laysTests_13 ?_
    refine aw_icmp_gt (tgt := 177) (by decide) dX8_laysTests_15 (fun _ => ?_) (fun z => absurd (nI_lt (a := 12) (by omega) (by omega)) z)
    exact AW.locs (by simpa only [cs_pl2, wt3_id] using K) (lsub_keep (lsub_keep (lsub_keep (lsub_none (lsub_keep (lsub_keep (lsub_keep (lsub_keep (lsub_keep (lsub_keep lsub_nil))))))))))
  | succ k ih =>
    intro i o hk hi hR K
    refine aw_iload_n (x := (nI i)) rfl dX8_laysTests_10 ?_
    refine aw_iload_n (x := (nI d)) rfl dX8_laysTests_11 ?_
    refine aw_iaddz (z := nI (i + d)) (nI_add i d) dX8_laysTests_12 ?_
    refine aw_bipush (v := 12) (by decide) dX8_laysTests_13 ?_
    refine aw_icmp_gt (tgt := 177) (by decide) dX8_laysTests_15 (fun z => absurd z (nI_nlt (a := 12) (by omega) (by decide))) (fun _ => ?_)
    refine lt_run hl (by omega) (by omega) ?_
    refine aw_iinc (n := 1) (x := (nI i)) (v := nI (i + 1)) (L2 := [some (.ref (ad 14 0 0)), some (.int (nI l)), some (.int (nI d)), some (.int (nI (i + 1))), none, none, none, none, none, none]) rfl (nI_1 i) (by decide) rfl rfl dX8_laysTests_171 ?_
    refine aw_goto (tgt := 10) (by decide) dX8_laysTests_174 ?_
    exact AW.locs (ih (i + 1) (wt3 o (cs_pr (cs_rk (o.1 8) l) (o.1 10, o.1 11) i (i + d)))  (by omega) (by omega) (by rw [wt3_ne _ _ (by decide) (by decide)]; exact hR) (by subst hR; simpa [cs_pl2, wt3_6, wt3_7, wt3_wt3] using K)) (lsub_keep (lsub_keep (lsub_keep (lsub_keep (lsub_keep (lsub_keep (lsub_keep (lsub_keep (lsub_keep (lsub_keep lsub_nil))))))))))
theorem lp_lt {ad : Nat → Nat → Nat → Nat} {l : Nat} {R : Nat → Int32} (hl : l < 5) : ∀ (k i : Nat) (o : wd_S) , i + k = 12 → (cs_rk (o.1 8) l = R) → AW ad MX8_laysTests 2 [some (.ref (ad 14 0 0)), some (.int (nI l)), some (.int (nI i)), none, none, none, none, none, none, none] [] o 0 0 (RT none (wt3 o (cs_pl1 R 1 12 (k) (i) (o.1 10, o.1 11)))) := by
  intro k
  induction k with
  | zero =>
    intro i o hk hR
    have hi : i = 12 := by omega
    subst hi
    refine aw_iload_n (x := (nI 12)) rfl dX8_laysTests_2 ?_
    refine aw_bipush (v := 12) (by decide) dX8_laysTests_3 ?_
    refine aw_icmp_ge (tgt := 183) (by decide) dX8_laysTests_5 (fun _ => ?_) (fun z => absurd (by decide) z)
    exact aw_vret rfl (by decide) (by decide) dX8_laysTests_183 ⟨by first | rfl | (simp [cs_pl1, wt3_id, mem]; done) | (simp_all [cs_pl1, wt3_id, mem]; done), by first | rfl | (simp [cs_pl1, wt3_id, mem]; done) | (simp_all [cs_pl1, wt3_id, mem]; done)⟩
  | succ k ih =>
    intro i o hk hR
    have hi : i < 12 := by omega
    refine aw_iload_n (x := (nI i)) rfl dX8_laysTests_2 ?_
    refine aw_bipush (v := 12) (by decide) dX8_laysTests_3 ?_
    refine aw_icmp_ge (tgt := 183) (by decide) dX8_laysTests_5 (fun z => absurd z (nI_ge (b := 12) hi (by decide))) (fun _ => ?_)
    refine aw_iconst (v := 1) (by decide) dX8_laysTests_8 ?_
    refine aw_istore_n (L2 := [some (.ref (ad 14 0 0)), some (.int (nI l)), some (.int (nI i)), some (.int 1), none, none, none, none, none, none]) (by decide) rfl rfl dX8_laysTests_9 ?_
    refine AW.locs (lp_lt_a (R := R) hl (12 - i + 1 - 1) 1 o (by omega) (Nat.le_refl 1) hR ?_) (lsub_keep (lsub_keep (lsub_keep (lsub_keep (lsub_keep (lsub_keep (lsub_keep (lsub_keep (lsub_keep (lsub_keep lsub_nil))))))))))
    refine aw_iinc (n := 1) (x := (nI i)) (v := nI (i + 1)) (L2 := [some (.ref (ad 14 0 0)), some (.int (nI l)), some (.int (nI (i + 1))), none, none, none, none, none, none, none]) rfl (nI_1 i) (by decide) rfl rfl dX8_laysTests_177 ?_
    refine aw_goto (tgt := 2) (by decide) dX8_laysTests_180 ?_
    have e9 : (RT none (wt3 o (cs_pl1 R 1 12 (k + 1) (i) (o.1 10, o.1 11)))) = (RT none (wt3 (wt3 o (cs_pl2 R i (12 - i + 1 - 1) 1 (o.1 10, o.1 11))) (cs_pl1 R 1 12 (k) (i + 1) ((wt3 o (cs_pl2 R i (12 - i + 1 - 1) 1 (o.1 10, o.1 11))).1 10, (wt3 o (cs_pl2 R i (12 - i + 1 - 1) 1 (o.1 10, o.1 11))).1 11)))) := by simp only [cs_pl1, wt3_6, wt3_7, wt3_wt3]
    rw [e9]
    exact AW.locs (ih (i + 1) (wt3 o (cs_pl2 R i (12 - i + 1 - 1) 1 (o.1 10, o.1 11)))  (by omega) (by rw [wt3_ne _ _ (by decide) (by decide)]; exact hR)) (lsub_keep (lsub_keep (lsub_keep (lsub_keep (lsub_keep (lsub_keep (lsub_keep (lsub_keep (lsub_keep (lsub_keep lsub_nil))))))))))
theorem ct_X8_lays {ad : Nat → Nat → Nat → Nat} {o : wd_S}  {l : Nat} (hl : l < 5) : CT ad MX8_laysTests [.ref (ad 14 0 0), .int (nI l)] o (RT none (wt3 o (cs_plan (cs_rk (o.1 8) l) 1 12 (o.1 10, o.1 11)))) := by
  refine CT.of (L := [some (.ref (ad 14 0 0)), some (.int (nI l)), none, none, none, none, none, none, none, none]) rfl rfl (by decide) (Nat.le_of_ble_eq_true rfl) rfl ?_
  refine aw_iconst (v := 0) (by decide) dX8_laysTests_0 ?_
  refine aw_istore_n (L2 := [some (.ref (ad 14 0 0)), some (.int (nI l)), some (.int 0), none, none, none, none, none, none, none]) (by decide) rfl rfl dX8_laysTests_1 ?_
  exact AW.post (lp_lt hl 12 0 o (by decide) rfl) (fun r o2 q => q)
