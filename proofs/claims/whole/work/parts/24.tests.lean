/-! SpanTests: the best order of tests; the tables are rows 6 (costs) and 7 (bests), a run from a to b at 13 * a + b -/
theorem nI_sub {a b : Nat} (h : a ≤ b) : nI b - nI a = nI (b - a) := by
  have e : nI b = nI (b - a) + nI a := by rw [nI_add, Nat.sub_add_cancel h]
  rw [e]
  simp
/-- the least of f over k places from i on, and where it is first met -/
def dpf (f : Nat → Int32) : Nat → Nat → Int32 → Int32 → Int32 × Int32
  | 0, _, le, w => (le, w)
  | k + 1, i, le, w => if w = -1 then dpf f k (i + 1) (f i) (nI i) else if f i ≥ le then dpf f k (i + 1) le w else dpf f k (i + 1) (f i) (nI i)
def cs_rk (B : Nat → Int32) (l k : Nat) : Int32 := B (20 * l + 8 + k)
abbrev TT : Type := (Nat → Int32) × (Nat → Int32)
def dpr (C : Nat → Int32) (a b i : Nat) : Int32 := C (13 * a + i) + C (13 * (i + 1) + b)
def tt_put (T : TT) (x : Nat) (c w : Int32) : TT := (upd T.1 x c, upd T.2 x w)
def cs_pr (R : Nat → Int32) (T : TT) (a b : Nat) : TT :=
  tt_put T (13 * a + b) (if (dpf (dpr T.1 a b) (b - a) a 0 (-1)).2 = -1 then 0 else R b + sumF R (b - a) a + (dpf (dpr T.1 a b) (b - a) a 0 (-1)).1) (dpf (dpr T.1 a b) (b - a) a 0 (-1)).2
def wt2 (o : wd_S) (T : TT) : wd_S := wd_row (wd_row o 6 T.1) 7 T.2
theorem wt2_6 (o : wd_S) (T : TT) : (wt2 o T).1 6 = T.1 := by simp [wt2, wd_row]
theorem wt2_7 (o : wd_S) (T : TT) : (wt2 o T).1 7 = T.2 := by simp [wt2, wd_row]
theorem wt2_ne (o : wd_S) (T : TT) {r : Nat} (h : r ≠ 6) (h2 : r ≠ 7) : (wt2 o T).1 r = o.1 r := by simp [wt2, wd_row, h, h2]
theorem wt2_2 (o : wd_S) (T : TT) : (wt2 o T).2 = o.2 := rfl
theorem wt2_wt2 (o : wd_S) (T U : TT) : wt2 (wt2 o T) U = wt2 o U := by
  refine Prod.ext (funext fun r => ?_) rfl
  by_cases h : r = 7
  · subst h; rw [wt2_7, wt2_7]
  · by_cases h6 : r = 6
    · subst h6; rw [wt2_6, wt2_6]
    · rw [wt2_ne _ _ h6 h, wt2_ne _ _ h6 h, wt2_ne _ _ h6 h]
theorem wt2_id (o : wd_S) : wt2 o (o.1 6, o.1 7) = o := by
  refine Prod.ext (funext fun r => ?_) rfl
  by_cases h : r = 7
  · subst h; rw [wt2_7]
  · by_cases h6 : r = 6
    · subst h6; rw [wt2_6]
    · rw [wt2_ne _ _ h6 h]
theorem wt2_put (o : wd_S) (x : Nat) (c w : Int32) : wd_w (wd_w o 6 x c) 7 x w = wt2 o (tt_put (o.1 6, o.1 7) x c w) := by
  rw [wd_w_row, wd_w_row, row_ne _ _ (show (7 : Nat) ≠ 6 by decide)]
  rfl
theorem lp_X4_run {ad : Nat → Nat → Nat → Nat} {o : wd_S} {l a b : Nat} (hl : l < 5) (ha : 1 ≤ a) (hab : a ≤ b) (hb : b ≤ 12) : ∀ (k i : Nat) (le : Int32) (w : Int32) (r : Int32), i + k = b → (a ≤ i) → AW ad MX4_planRun 14 [some (.ref (ad 11 0 0)), some (.ref (ad 2 0 l)), some (.int (nI a)), some (.int (nI b)), some (.int le), some (.int w), some (.int r), some (.int (nI i)), none] [] o 0 0 (RT none (wt2 o (tt_put (o.1 6, o.1 7) (13 * a + b) (if (dpf (dpr (o.1 6) a b) (k) (i) le w).2 = -1 then 0 else r + sumF (cs_rk (o.1 0) l) (k) (i) + (dpf (dpr (o.1 6) a b) (k) (i) le w).1) (dpf (dpr (o.1 6) a b) (k) (i) le w).2))) := by
  intro k
  induction k with
  | zero =>
    intro i le w r hk hi
    refine aw_iload (x := (nI i)) rfl dX4_planRun_14 ?_
    refine aw_iload_n (x := (nI b)) rfl dX4_planRun_16 ?_
    refine aw_icmp_ge (tgt := 79) (by decide) dX4_planRun_17 (fun _ => ?_) (fun z => absurd (nI_le (by omega) (by omega)) z)
    refine aw_aload_n (x := ad 11 0 0) rfl dX4_planRun_79 ?_
    refine aw_getr (q := (12, 0, 0)) wv11 rfl flX4_11 rfl rfl dX4_planRun_80 ?_
    refine aw_iload_n (x := (nI a)) rfl dX4_planRun_83 ?_
    refine aw_ald (x := a) (ty := 5) (q := (13, 0, a)) rfl (wv12 (by decide)) (wr12 (by omega)) (by show _ < 13; omega) rfl (by decide) (by decide) dX4_planRun_84 ?_
    refine aw_iload_n (x := (nI b)) rfl dX4_planRun_85 ?_
    refine aw_iload (x := w) rfl dX4_planRun_86 ?_
    refine aw_iconst (v := (-1)) (by decide) dX4_planRun_88 ?_
    refine aw_icmp_ne (tgt := 96) (by decide) dX4_planRun_89 (fun b1 => ?_) (fun b1 => ?_)
    · skip
      refine aw_iload (x := r) rfl dX4_planRun_96 ?_
      refine aw_iload (x := le) rfl dX4_planRun_98 ?_
      refine aw_iaddz (z := r + le) rfl dX4_planRun_100 ?_
      refine aw_ist (x := b) (q := (6, 13 * a + b)) (y := r + le) rfl (wv13 (j := 0) (i := a) (by decide) (by omega)) (wi13 (by omega)) (by show _ < 13; omega) rfl dX4_planRun_101 ?_
      refine aw_aload_n (x := ad 11 0 0) rfl dX4_planRun_102 ?_
      refine aw_getr (q := (12, 0, 1)) wv11 rfl flX4_16 rfl rfl dX4_planRun_103 ?_
      refine aw_iload_n (x := (nI a)) rfl dX4_planRun_106 ?_
      refine aw_ald (x := a) (ty := 5) (q := (13, 1, a)) rfl (wv12 (by decide)) (wr12 (by omega)) (by show _ < 13; omega) rfl (by decide) (by decide) dX4_planRun_107 ?_
      refine aw_iload_n (x := (nI b)) rfl dX4_planRun_108 ?_
      refine aw_iload (x := w) rfl dX4_planRun_109 ?_
      refine aw_ist (x := b) (q := (7, 13 * a + b)) (y := w) rfl (wv13 (j := 1) (i := a) (by decide) (by omega)) (wi13 (by omega)) (by show _ < 13; omega) rfl dX4_planRun_111 ?_
      exact aw_vret rfl (by decide) (by decide) dX4_planRun_112 ⟨rfl, by rw [wt2_put]; simp [dpf, sumF, b1]⟩
    · skip
      refine aw_iconst (v := 0) (by decide) dX4_planRun_92 ?_
      refine aw_goto (tgt := 101) (by decide) dX4_planRun_93 ?_
      refine aw_ist (x := b) (q := (6, 13 * a + b)) (y := 0) rfl (wv13 (j := 0) (i := a) (by decide) (by omega)) (wi13 (by omega)) (by show _ < 13; omega) rfl dX4_planRun_101 ?_
      refine aw_aload_n (x := ad 11 0 0) rfl dX4_planRun_102 ?_
      refine aw_getr (q := (12, 0, 1)) wv11 rfl flX4_16 rfl rfl dX4_planRun_103 ?_
      refine aw_iload_n (x := (nI a)) rfl dX4_planRun_106 ?_
      refine aw_ald (x := a) (ty := 5) (q := (13, 1, a)) rfl (wv12 (by decide)) (wr12 (by omega)) (by show _ < 13; omega) rfl (by decide) (by decide) dX4_planRun_107 ?_
      refine aw_iload_n (x := (nI b)) rfl dX4_planRun_108 ?_
      refine aw_iload (x := w) rfl dX4_planRun_109 ?_
      refine aw_ist (x := b) (q := (7, 13 * a + b)) (y := w) rfl (wv13 (j := 1) (i := a) (by decide) (by omega)) (wi13 (by omega)) (by show _ < 13; omega) rfl dX4_planRun_111 ?_
      exact aw_vret rfl (by decide) (by decide) dX4_planRun_112 ⟨rfl, by rw [wt2_put]; simp [dpf, sumF, b1]⟩
  | succ k ih =>
    intro i le w r hk hi
    refine aw_iload (x := (nI i)) rfl dX4_planRun_14 ?_
    refine aw_iload_n (x := (nI b)) rfl dX4_planRun_16 ?_
    refine aw_icmp_ge (tgt := 79) (by decide) dX4_planRun_17 (fun z => absurd z (nI_ge (by omega) (by omega))) (fun _ => ?_)
    refine aw_aload_n (x := ad 11 0 0) rfl dX4_planRun_20 ?_
    refine aw_getr (q := (12, 0, 0)) wv11 rfl flX4_11 rfl rfl dX4_planRun_21 ?_
    refine aw_iload_n (x := (nI a)) rfl dX4_planRun_24 ?_
    refine aw_ald (x := a) (ty := 5) (q := (13, 0, a)) rfl (wv12 (by decide)) (wr12 (by omega)) (by show _ < 13; omega) rfl (by decide) (by decide) dX4_planRun_25 ?_
    refine aw_iload (x := (nI i)) rfl dX4_planRun_26 ?_
    refine aw_ild (x := i) (q := (6, 13 * a + i)) (y := o.1 6 (13 * a + i)) rfl (wv13 (j := 0) (i := a) (by decide) (by omega)) (wi13 (by omega)) rfl (by show _ < 13; omega) rfl dX4_planRun_28 ?_
    refine aw_aload_n (x := ad 11 0 0) rfl dX4_planRun_29 ?_
    refine aw_getr (q := (12, 0, 0)) wv11 rfl flX4_11 rfl rfl dX4_planRun_30 ?_
    refine aw_iload (x := (nI i)) rfl dX4_planRun_33 ?_
    refine aw_iconst (v := 1) (by decide) dX4_planRun_35 ?_
    refine aw_iaddz (z := nI (i + 1)) (nI_1 i) dX4_planRun_36 ?_
    refine aw_ald (x := i + 1) (ty := 5) (q := (13, 0, i + 1)) rfl (wv12 (by decide)) (wr12 (by omega)) (by show _ < 13; omega) rfl (by decide) (by decide) dX4_planRun_37 ?_
    refine aw_iload_n (x := (nI b)) rfl dX4_planRun_38 ?_
    refine aw_ild (x := b) (q := (6, 13 * (i + 1) + b)) (y := o.1 6 (13 * (i + 1) + b)) rfl (wv13 (j := 0) (i := i + 1) (by decide) (by omega)) (wi13 (by omega)) rfl (by show _ < 13; omega) rfl dX4_planRun_39 ?_
    refine aw_iaddz (z := (o.1 6 (13 * a + i)) + (o.1 6 (13 * (i + 1) + b))) rfl dX4_planRun_40 ?_
    refine aw_istore (L2 := [some (.ref (ad 11 0 0)), some (.ref (ad 2 0 l)), some (.int (nI a)), some (.int (nI b)), some (.int le), some (.int w), some (.int r), some (.int (nI i)), some (.int ((o.1 6 (13 * a + i)) + (o.1 6 (13 * (i + 1) + b))))]) (by decide) rfl rfl dX4_planRun_41 ?_
    refine aw_iload (x := w) rfl dX4_planRun_43 ?_
    refine aw_iconst (v := (-1)) (by decide) dX4_planRun_45 ?_
    refine aw_icmp_eq (tgt := 56) (by decide) dX4_planRun_46 (fun b1 => ?_) (fun b1 => ?_)
    · skip
      refine aw_iload (x := ((o.1 6 (13 * a + i)) + (o.1 6 (13 * (i + 1) + b)))) rfl dX4_planRun_56 ?_
      refine aw_istore (L2 := [some (.ref (ad 11 0 0)), some (.ref (ad 2 0 l)), some (.int (nI a)), some (.int (nI b)), some (.int ((o.1 6 (13 * a + i)) + (o.1 6 (13 * (i + 1) + b)))), some (.int w), some (.int r), some (.int (nI i)), some (.int ((o.1 6 (13 * a + i)) + (o.1 6 (13 * (i + 1) + b))))]) (by decide) rfl rfl dX4_planRun_58 ?_
      refine aw_iload (x := (nI i)) rfl dX4_planRun_60 ?_
      refine aw_istore (L2 := [some (.ref (ad 11 0 0)), some (.ref (ad 2 0 l)), some (.int (nI a)), some (.int (nI b)), some (.int ((o.1 6 (13 * a + i)) + (o.1 6 (13 * (i + 1) + b)))), some (.int (nI i)), some (.int r), some (.int (nI i)), some (.int ((o.1 6 (13 * a + i)) + (o.1 6 (13 * (i + 1) + b))))]) (by decide) rfl rfl dX4_planRun_62 ?_
      refine aw_iload (x := r) rfl dX4_planRun_64 ?_
      refine aw_aload_n (x := ad 2 0 l) rfl dX4_planRun_66 ?_
      refine aw_iload (x := (nI i)) rfl dX4_planRun_67 ?_
      refine aw_ild (x := i) (q := (0, 20 * l + 8 + i)) (y := o.1 0 (20 * l + 8 + i)) rfl (wv2 (by decide) hl) (wi2 (by omega)) rfl (by show _ < 13; omega) rfl dX4_planRun_69 ?_
      refine aw_iaddz (z := r + (o.1 0 (20 * l + 8 + i))) rfl dX4_planRun_70 ?_
      refine aw_istore (L2 := [some (.ref (ad 11 0 0)), some (.ref (ad 2 0 l)), some (.int (nI a)), some (.int (nI b)), some (.int ((o.1 6 (13 * a + i)) + (o.1 6 (13 * (i + 1) + b)))), some (.int (nI i)), some (.int (r + (o.1 0 (20 * l + 8 + i)))), some (.int (nI i)), some (.int ((o.1 6 (13 * a + i)) + (o.1 6 (13 * (i + 1) + b))))]) (by decide) rfl rfl dX4_planRun_71 ?_
      refine aw_iinc (n := 1) (x := (nI i)) (v := nI (i + 1)) (L2 := [some (.ref (ad 11 0 0)), some (.ref (ad 2 0 l)), some (.int (nI a)), some (.int (nI b)), some (.int ((o.1 6 (13 * a + i)) + (o.1 6 (13 * (i + 1) + b)))), some (.int (nI i)), some (.int (r + (o.1 0 (20 * l + 8 + i)))), some (.int (nI (i + 1))), some (.int ((o.1 6 (13 * a + i)) + (o.1 6 (13 * (i + 1) + b))))]) rfl (nI_1 i) (by decide) rfl rfl dX4_planRun_73 ?_
      refine aw_goto (tgt := 14) (by decide) dX4_planRun_76 ?_
      have e9 : (RT none (wt2 o (tt_put (o.1 6, o.1 7) (13 * a + b) (if (dpf (dpr (o.1 6) a b) (k + 1) (i) le w).2 = -1 then 0 else r + sumF (cs_rk (o.1 0) l) (k + 1) (i) + (dpf (dpr (o.1 6) a b) (k + 1) (i) le w).1) (dpf (dpr (o.1 6) a b) (k + 1) (i) le w).2))) = (RT none (wt2 o (tt_put (o.1 6, o.1 7) (13 * a + b) (if (dpf (dpr (o.1 6) a b) (k) (i + 1) ((o.1 6 (13 * a + i)) + (o.1 6 (13 * (i + 1) + b))) (nI i)).2 = -1 then 0 else (r + (o.1 0 (20 * l + 8 + i))) + sumF (cs_rk (o.1 0) l) (k) (i + 1) + (dpf (dpr (o.1 6) a b) (k) (i + 1) ((o.1 6 (13 * a + i)) + (o.1 6 (13 * (i + 1) + b))) (nI i)).1) (dpf (dpr (o.1 6) a b) (k) (i + 1) ((o.1 6 (13 * a + i)) + (o.1 6 (13 * (i + 1) + b))) (nI i)).2))) := by first | (simp [dpf, dpr, sumF, sumF_acc, cs_rk, mem, b1]; done) | (simp_all [dpf, dpr, sumF, sumF_acc, cs_rk, mem, b1]; done)
      rw [e9]
      exact AW.locs (ih (i + 1) ((o.1 6 (13 * a + i)) + (o.1 6 (13 * (i + 1) + b))) (nI i) (r + (o.1 0 (20 * l + 8 + i))) (by omega) (by omega)) (lsub_keep (lsub_keep (lsub_keep (lsub_keep (lsub_keep (lsub_keep (lsub_keep (lsub_keep (lsub_none lsub_nil)))))))))
    · skip
      refine aw_iload (x := ((o.1 6 (13 * a + i)) + (o.1 6 (13 * (i + 1) + b)))) rfl dX4_planRun_49 ?_
      refine aw_iload (x := le) rfl dX4_planRun_51 ?_
      refine aw_icmp_ge (tgt := 64) (by decide) dX4_planRun_53 (fun b2 => ?_) (fun b2 => ?_)
      · skip
        refine aw_iload (x := r) rfl dX4_planRun_64 ?_
        refine aw_aload_n (x := ad 2 0 l) rfl dX4_planRun_66 ?_
        refine aw_iload (x := (nI i)) rfl dX4_planRun_67 ?_
        refine aw_ild (x := i) (q := (0, 20 * l + 8 + i)) (y := o.1 0 (20 * l + 8 + i)) rfl (wv2 (by decide) hl) (wi2 (by omega)) rfl (by show _ < 13; omega) rfl dX4_planRun_69 ?_
        refine aw_iaddz (z := r + (o.1 0 (20 * l + 8 + i))) rfl dX4_planRun_70 ?_
        refine aw_istore (L2 := [some (.ref (ad 11 0 0)), some (.ref (ad 2 0 l)), some (.int (nI a)), some (.int (nI b)), some (.int le), some (.int w), some (.int (r + (o.1 0 (20 * l + 8 + i)))), some (.int (nI i)), some (.int ((o.1 6 (13 * a + i)) + (o.1 6 (13 * (i + 1) + b))))]) (by decide) rfl rfl dX4_planRun_71 ?_
        refine aw_iinc (n := 1) (x := (nI i)) (v := nI (i + 1)) (L2 := [some (.ref (ad 11 0 0)), some (.ref (ad 2 0 l)), some (.int (nI a)), some (.int (nI b)), some (.int le), some (.int w), some (.int (r + (o.1 0 (20 * l + 8 + i)))), some (.int (nI (i + 1))), some (.int ((o.1 6 (13 * a + i)) + (o.1 6 (13 * (i + 1) + b))))]) rfl (nI_1 i) (by decide) rfl rfl dX4_planRun_73 ?_
        refine aw_goto (tgt := 14) (by decide) dX4_planRun_76 ?_
        have e9 : (RT none (wt2 o (tt_put (o.1 6, o.1 7) (13 * a + b) (if (dpf (dpr (o.1 6) a b) (k + 1) (i) le w).2 = -1 then 0 else r + sumF (cs_rk (o.1 0) l) (k + 1) (i) + (dpf (dpr (o.1 6) a b) (k + 1) (i) le w).1) (dpf (dpr (o.1 6) a b) (k + 1) (i) le w).2))) = (RT none (wt2 o (tt_put (o.1 6, o.1 7) (13 * a + b) (if (dpf (dpr (o.1 6) a b) (k) (i + 1) le w).2 = -1 then 0 else (r + (o.1 0 (20 * l + 8 + i))) + sumF (cs_rk (o.1 0) l) (k) (i + 1) + (dpf (dpr (o.1 6) a b) (k) (i + 1) le w).1) (dpf (dpr (o.1 6) a b) (k) (i + 1) le w).2))) := by first | (simp [dpf, dpr, sumF, sumF_acc, cs_rk, mem, b1, b2]; done) | (simp_all [dpf, dpr, sumF, sumF_acc, cs_rk, mem, b1, b2]; done)
        rw [e9]
        exact AW.locs (ih (i + 1) le w (r + (o.1 0 (20 * l + 8 + i))) (by omega) (by omega)) (lsub_keep (lsub_keep (lsub_keep (lsub_keep (lsub_keep (lsub_keep (lsub_keep (lsub_keep (lsub_none lsub_nil)))))))))
      · skip
        refine aw_iload (x := ((o.1 6 (13 * a + i)) + (o.1 6 (13 * (i + 1) + b)))) rfl dX4_planRun_56 ?_
        refine aw_istore (L2 := [some (.ref (ad 11 0 0)), some (.ref (ad 2 0 l)), some (.int (nI a)), some (.int (nI b)), some (.int ((o.1 6 (13 * a + i)) + (o.1 6 (13 * (i + 1) + b)))), some (.int w), some (.int r), some (.int (nI i)), some (.int ((o.1 6 (13 * a + i)) + (o.1 6 (13 * (i + 1) + b))))]) (by decide) rfl rfl dX4_planRun_58 ?_
        refine aw_iload (x := (nI i)) rfl dX4_planRun_60 ?_
        refine aw_istore (L2 := [some (.ref (ad 11 0 0)), some (.ref (ad 2 0 l)), some (.int (nI a)), some (.int (nI b)), some (.int ((o.1 6 (13 * a + i)) + (o.1 6 (13 * (i + 1) + b)))), some (.int (nI i)), some (.int r), some (.int (nI i)), some (.int ((o.1 6 (13 * a + i)) + (o.1 6 (13 * (i + 1) + b))))]) (by decide) rfl rfl dX4_planRun_62 ?_
        refine aw_iload (x := r) rfl dX4_planRun_64 ?_
        refine aw_aload_n (x := ad 2 0 l) rfl dX4_planRun_66 ?_
        refine aw_iload (x := (nI i)) rfl dX4_planRun_67 ?_
        refine aw_ild (x := i) (q := (0, 20 * l + 8 + i)) (y := o.1 0 (20 * l + 8 + i)) rfl (wv2 (by decide) hl) (wi2 (by omega)) rfl (by show _ < 13; omega) rfl dX4_planRun_69 ?_
        refine aw_iaddz (z := r + (o.1 0 (20 * l + 8 + i))) rfl dX4_planRun_70 ?_
        refine aw_istore (L2 := [some (.ref (ad 11 0 0)), some (.ref (ad 2 0 l)), some (.int (nI a)), some (.int (nI b)), some (.int ((o.1 6 (13 * a + i)) + (o.1 6 (13 * (i + 1) + b)))), some (.int (nI i)), some (.int (r + (o.1 0 (20 * l + 8 + i)))), some (.int (nI i)), some (.int ((o.1 6 (13 * a + i)) + (o.1 6 (13 * (i + 1) + b))))]) (by decide) rfl rfl dX4_planRun_71 ?_
        refine aw_iinc (n := 1) (x := (nI i)) (v := nI (i + 1)) (L2 := [some (.ref (ad 11 0 0)), some (.ref (ad 2 0 l)), some (.int (nI a)), some (.int (nI b)), some (.int ((o.1 6 (13 * a + i)) + (o.1 6 (13 * (i + 1) + b)))), some (.int (nI i)), some (.int (r + (o.1 0 (20 * l + 8 + i)))), some (.int (nI (i + 1))), some (.int ((o.1 6 (13 * a + i)) + (o.1 6 (13 * (i + 1) + b))))]) rfl (nI_1 i) (by decide) rfl rfl dX4_planRun_73 ?_
        refine aw_goto (tgt := 14) (by decide) dX4_planRun_76 ?_
        have e9 : (RT none (wt2 o (tt_put (o.1 6, o.1 7) (13 * a + b) (if (dpf (dpr (o.1 6) a b) (k + 1) (i) le w).2 = -1 then 0 else r + sumF (cs_rk (o.1 0) l) (k + 1) (i) + (dpf (dpr (o.1 6) a b) (k + 1) (i) le w).1) (dpf (dpr (o.1 6) a b) (k + 1) (i) le w).2))) = (RT none (wt2 o (tt_put (o.1 6, o.1 7) (13 * a + b) (if (dpf (dpr (o.1 6) a b) (k) (i + 1) ((o.1 6 (13 * a + i)) + (o.1 6 (13 * (i + 1) + b))) (nI i)).2 = -1 then 0 else (r + (o.1 0 (20 * l + 8 + i))) + sumF (cs_rk (o.1 0) l) (k) (i + 1) + (dpf (dpr (o.1 6) a b) (k) (i + 1) ((o.1 6 (13 * a + i)) + (o.1 6 (13 * (i + 1) + b))) (nI i)).1) (dpf (dpr (o.1 6) a b) (k) (i + 1) ((o.1 6 (13 * a + i)) + (o.1 6 (13 * (i + 1) + b))) (nI i)).2))) := by first | (simp [dpf, dpr, sumF, sumF_acc, cs_rk, mem, b1, b2]; done) | (simp_all [dpf, dpr, sumF, sumF_acc, cs_rk, mem, b1, b2]; done)
        rw [e9]
        exact AW.locs (ih (i + 1) ((o.1 6 (13 * a + i)) + (o.1 6 (13 * (i + 1) + b))) (nI i) (r + (o.1 0 (20 * l + 8 + i))) (by omega) (by omega)) (lsub_keep (lsub_keep (lsub_keep (lsub_keep (lsub_keep (lsub_keep (lsub_keep (lsub_keep (lsub_none lsub_nil)))))))))
theorem ct_X4_run {ad : Nat → Nat → Nat → Nat} {o : wd_S} {l a b : Nat} (hl : l < 5) (ha : 1 ≤ a) (hab : a ≤ b) (hb : b ≤ 12) : CT ad MX4_planRun [.ref (ad 11 0 0), .ref (ad 2 0 l), .int (nI a), .int (nI b)] o (RT none (wt2 o (cs_pr (cs_rk (o.1 0) l) (o.1 6, o.1 7) a b))) := by
  refine CT.of (L := [some (.ref (ad 11 0 0)), some (.ref (ad 2 0 l)), some (.int (nI a)), some (.int (nI b)), none, none, none, none, none]) rfl rfl (by decide) (Nat.le_of_ble_eq_true rfl) rfl ?_
  refine aw_iconst (v := 0) (by decide) dX4_planRun_0 ?_
  refine aw_istore (L2 := [some (.ref (ad 11 0 0)), some (.ref (ad 2 0 l)), some (.int (nI a)), some (.int (nI b)), some (.int 0), none, none, none, none]) (by decide) rfl rfl dX4_planRun_1 ?_
  refine aw_iconst (v := (-1)) (by decide) dX4_planRun_3 ?_
  refine aw_istore (L2 := [some (.ref (ad 11 0 0)), some (.ref (ad 2 0 l)), some (.int (nI a)), some (.int (nI b)), some (.int 0), some (.int (-1)), none, none, none]) (by decide) rfl rfl dX4_planRun_4 ?_
  refine aw_aload_n (x := ad 2 0 l) rfl dX4_planRun_6 ?_
  refine aw_iload_n (x := (nI b)) rfl dX4_planRun_7 ?_
  refine aw_ild (x := b) (q := (0, 20 * l + 8 + b)) (y := o.1 0 (20 * l + 8 + b)) rfl (wv2 (by decide) hl) (wi2 (by omega)) rfl (by show _ < 13; omega) rfl dX4_planRun_8 ?_
  refine aw_istore (L2 := [some (.ref (ad 11 0 0)), some (.ref (ad 2 0 l)), some (.int (nI a)), some (.int (nI b)), some (.int 0), some (.int (-1)), some (.int (o.1 0 (20 * l + 8 + b))), none, none]) (by decide) rfl rfl dX4_planRun_9 ?_
  refine aw_iload_n (x := (nI a)) rfl dX4_planRun_11 ?_
  refine aw_istore (L2 := [some (.ref (ad 11 0 0)), some (.ref (ad 2 0 l)), some (.int (nI a)), some (.int (nI b)), some (.int 0), some (.int (-1)), some (.int (o.1 0 (20 * l + 8 + b))), some (.int (nI a)), none]) (by decide) rfl rfl dX4_planRun_12 ?_
  exact AW.post (AW.locs (lp_X4_run hl ha hab hb (b - a) a 0 (-1) (cs_rk (o.1 0) l b) (by omega) (Nat.le_refl a)) (lsub_keep (lsub_keep (lsub_keep (lsub_keep (lsub_keep (lsub_keep (lsub_keep (lsub_keep (lsub_keep lsub_nil)))))))))) (fun r o2 q => by simpa [cs_pr] using q)
def cs_pl2 (R : Nat → Int32) (d : Nat) : Nat → Nat → TT → TT
  | 0, _, T => T
  | k + 1, i, T => cs_pl2 R d k (i + 1) (cs_pr R T i (i + d))
def cs_pl1 (R : Nat → Int32) (a b : Nat) : Nat → Nat → TT → TT
  | 0, _, T => T
  | k + 1, i, T => cs_pl1 R a b k (i + 1) (cs_pl2 R i (b - i + 1 - a) a T)
def cs_plan (R : Nat → Int32) (a b : Nat) (T : TT) : TT := cs_pl1 R a b (b - a + 1) 0 T
theorem lp_X4_in {ad : Nat → Nat → Nat → Nat} {l a b d : Nat} {F : (Option Value ⊕ String) → wd_S → Prop} {R : Nat → Int32} (hl : l < 5) (ha : 1 ≤ a) (hb : b ≤ 12) : ∀ (k i : Nat) (o : wd_S) , i + k + d = b + 1 → (a ≤ i) → (cs_rk (o.1 0) l = R) → (AW ad MX4_plan 41 [some (.ref (ad 11 0 0)), some (.ref (ad 2 0 l)), some (.int (nI a)), some (.int (nI b)), some (.int (nI d)), none] [] (wt2 o (cs_pl2 R d k i (o.1 6, o.1 7))) 0 0 F) → AW ad MX4_plan 14 [some (.ref (ad 11 0 0)), some (.ref (ad 2 0 l)), some (.int (nI a)), some (.int (nI b)), some (.int (nI d)), some (.int (nI i))] [] o 0 0 F := by
  intro k
  induction k with
  | zero =>
    intro i o hk hi hR K
    refine aw_iload (x := (nI i)) rfl dX4_plan_14 ?_
    refine aw_iload (x := (nI d)) rfl dX4_plan_16 ?_
    refine aw_iaddz (z := nI (i + d)) (nI_add i d) dX4_plan_18 ?_
    refine aw_iload_n (x := (nI b)) rfl dX4_plan_19 ?_
    refine aw_icmp_gt (tgt := 41) (by decide) dX4_plan_20 (fun _ => ?_) (fun z => absurd (nI_lt (by omega) (by omega)) z)
    exact AW.locs (by simpa [cs_pl2, wt2_id] using K) (lsub_keep (lsub_keep (lsub_keep (lsub_keep (lsub_keep (lsub_none lsub_nil))))))
  | succ k ih =>
    intro i o hk hi hR K
    refine aw_iload (x := (nI i)) rfl dX4_plan_14 ?_
    refine aw_iload (x := (nI d)) rfl dX4_plan_16 ?_
    refine aw_iaddz (z := nI (i + d)) (nI_add i d) dX4_plan_18 ?_
    refine aw_iload_n (x := (nI b)) rfl dX4_plan_19 ?_
    refine aw_icmp_gt (tgt := 41) (by decide) dX4_plan_20 (fun z => absurd z (nI_nlt (by omega) (by omega))) (fun _ => ?_)
    refine aw_aload_n (x := ad 11 0 0) rfl dX4_plan_23 ?_
    refine aw_aload_n (x := ad 2 0 l) rfl dX4_plan_24 ?_
    refine aw_iload (x := (nI i)) rfl dX4_plan_25 ?_
    refine aw_iload (x := (nI i)) rfl dX4_plan_27 ?_
    refine aw_iload (x := (nI d)) rfl dX4_plan_29 ?_
    refine aw_iaddz (z := nI (i + d)) (nI_add i d) dX4_plan_31 ?_
    refine aw_rV (As := [.ref (ad 2 0 l), .int (nI i), .int (nI (i + d))]) (S := []) (v := none) (o2 := (wt2 o (cs_pr (cs_rk (o.1 0) l) (o.1 6, o.1 7) i (i + d)))) (ct_X4_run hl (by omega) (by omega) (by omega)) (mm_fit_of cbX4_planRun (by decide) (by decide)) wq844 cvX4_planRun wv11 rfl rfl rfl (Nat.le_of_ble_eq_true rfl) (by decide) (by decide) rfl dX4_plan_32 ?_
    refine aw_iinc (n := 1) (x := (nI i)) (v := nI (i + 1)) (L2 := [some (.ref (ad 11 0 0)), some (.ref (ad 2 0 l)), some (.int (nI a)), some (.int (nI b)), some (.int (nI d)), some (.int (nI (i + 1)))]) rfl (nI_1 i) (by decide) rfl rfl dX4_plan_35 ?_
    refine aw_goto (tgt := 14) (by decide) dX4_plan_38 ?_
    exact AW.locs (ih (i + 1) (wt2 o (cs_pr (cs_rk (o.1 0) l) (o.1 6, o.1 7) i (i + d)))  (by omega) (by omega) (by rw [wt2_ne _ _ (by decide) (by decide)]; exact hR) (by subst hR; simpa [cs_pl2, wt2_6, wt2_7, wt2_wt2] using K)) (lsub_keep (lsub_keep (lsub_keep (lsub_keep (lsub_keep (lsub_keep lsub_nil))))))
theorem lp_X4_out {ad : Nat → Nat → Nat → Nat} {l a b : Nat} {R : Nat → Int32} (hl : l < 5) (ha : 1 ≤ a) (hab : a ≤ b) (hb : b ≤ 12) : ∀ (k i : Nat) (o : wd_S) , i + k + a = b + 1 → (cs_rk (o.1 0) l = R) → AW ad MX4_plan 3 [some (.ref (ad 11 0 0)), some (.ref (ad 2 0 l)), some (.int (nI a)), some (.int (nI b)), some (.int (nI i)), none] [] o 0 0 (RT none (wt2 o (cs_pl1 R a b (k) (i) (o.1 6, o.1 7)))) := by
  intro k
  induction k with
  | zero =>
    intro i o hk hR
    refine aw_iload (x := (nI i)) rfl dX4_plan_3 ?_
    refine aw_iload_n (x := (nI b)) rfl dX4_plan_5 ?_
    refine aw_iload_n (x := (nI a)) rfl dX4_plan_6 ?_
    refine aw_isubz (z := nI (b - a)) (nI_sub hab) dX4_plan_7 ?_
    refine aw_icmp_gt (tgt := 47) (by decide) dX4_plan_8 (fun _ => ?_) (fun z => absurd (nI_lt (by omega) (by omega)) z)
    exact aw_vret rfl (by decide) (by decide) dX4_plan_47 ⟨by first | rfl | (simp [cs_pl1, wt2_id, mem]; done) | (simp_all [cs_pl1, wt2_id, mem]; done), by first | rfl | (simp [cs_pl1, wt2_id, mem]; done) | (simp_all [cs_pl1, wt2_id, mem]; done)⟩
  | succ k ih =>
    intro i o hk hR
    refine aw_iload (x := (nI i)) rfl dX4_plan_3 ?_
    refine aw_iload_n (x := (nI b)) rfl dX4_plan_5 ?_
    refine aw_iload_n (x := (nI a)) rfl dX4_plan_6 ?_
    refine aw_isubz (z := nI (b - a)) (nI_sub hab) dX4_plan_7 ?_
    refine aw_icmp_gt (tgt := 47) (by decide) dX4_plan_8 (fun z => absurd z (nI_nlt (by omega) (by omega))) (fun _ => ?_)
    refine aw_iload_n (x := (nI a)) rfl dX4_plan_11 ?_
    refine aw_istore (L2 := [some (.ref (ad 11 0 0)), some (.ref (ad 2 0 l)), some (.int (nI a)), some (.int (nI b)), some (.int (nI i)), some (.int (nI a))]) (by decide) rfl rfl dX4_plan_12 ?_
    refine lp_X4_in (R := R) hl ha hb (b - i + 1 - a) a o (by omega) (Nat.le_refl a) hR ?_
    refine aw_iinc (n := 1) (x := (nI i)) (v := nI (i + 1)) (L2 := [some (.ref (ad 11 0 0)), some (.ref (ad 2 0 l)), some (.int (nI a)), some (.int (nI b)), some (.int (nI (i + 1))), none]) rfl (nI_1 i) (by decide) rfl rfl dX4_plan_41 ?_
    refine aw_goto (tgt := 3) (by decide) dX4_plan_44 ?_
    have e9 : (RT none (wt2 o (cs_pl1 R a b (k + 1) (i) (o.1 6, o.1 7)))) = (RT none (wt2 (wt2 o (cs_pl2 R i (b - i + 1 - a) a (o.1 6, o.1 7))) (cs_pl1 R a b (k) (i + 1) ((wt2 o (cs_pl2 R i (b - i + 1 - a) a (o.1 6, o.1 7))).1 6, (wt2 o (cs_pl2 R i (b - i + 1 - a) a (o.1 6, o.1 7))).1 7)))) := by simp only [cs_pl1, wt2_6, wt2_7, wt2_wt2]
    rw [e9]
    exact AW.locs (ih (i + 1) (wt2 o (cs_pl2 R i (b - i + 1 - a) a (o.1 6, o.1 7)))  (by omega) (by rw [wt2_ne _ _ (by decide) (by decide)]; exact hR)) (lsub_keep (lsub_keep (lsub_keep (lsub_keep (lsub_keep (lsub_keep lsub_nil))))))
theorem ct_X4_plan {ad : Nat → Nat → Nat → Nat} {o : wd_S} {l a b : Nat} (hl : l < 5) (ha : 1 ≤ a) (hab : a ≤ b) (hb : b ≤ 12) : CT ad MX4_plan [.ref (ad 11 0 0), .ref (ad 2 0 l), .int (nI a), .int (nI b)] o (RT none (wt2 o (cs_plan (cs_rk (o.1 0) l) a b (o.1 6, o.1 7)))) := by
  refine CT.of (L := [some (.ref (ad 11 0 0)), some (.ref (ad 2 0 l)), some (.int (nI a)), some (.int (nI b)), none, none]) rfl rfl (by decide) (Nat.le_of_ble_eq_true rfl) rfl ?_
  refine aw_iconst (v := 0) (by decide) dX4_plan_0 ?_
  refine aw_istore (L2 := [some (.ref (ad 11 0 0)), some (.ref (ad 2 0 l)), some (.int (nI a)), some (.int (nI b)), some (.int 0), none]) (by decide) rfl rfl dX4_plan_1 ?_
  exact AW.post (AW.locs (lp_X4_out hl ha hab hb (b - a + 1) 0 o (by omega) rfl) (lsub_keep (lsub_keep (lsub_keep (lsub_keep (lsub_keep (lsub_keep lsub_nil))))))) (fun r o2 q => by simpa [cs_plan] using q)
theorem fnd_j {x : Int32} {a b : Nat} (ha : a ≤ 12) (hb : b ≤ 12) (h1 : ¬ x < nI a) (h2 : x < nI b) : ∃ j, a ≤ j ∧ j < b ∧ x = nI j := by
  have h0 : ¬ x < 0 := fun h => h1 (by
    have e0 : (0 : Int32).toInt = 0 := by decide
    rw [Int32.lt_iff_toInt_lt] at h ⊢
    rw [nI_toInt (by omega)]
    omega)
  obtain ⟨j, hj, rfl⟩ := nI_of h0
  refine ⟨j, ?_, (nI_ltI hj (by omega)).1 h2, rfl⟩
  rw [nI_ltI hj (by omega)] at h1
  omega
def cs_find (D : Nat → Int32) (sp : Int32) : Nat → Nat → Nat → Nat → Nat
  | 0, i, _, _ => i
  | k + 1, i, a, b => if nI a ≥ nI b then i else if D (13 * a + b) < nI a then i else if D (13 * a + b) < nI b then (if sp > D (13 * a + b) then cs_find D sp k (i + 1) ((D (13 * a + b)).toNatClampNeg + 1) b else cs_find D sp k (i + 1) a (D (13 * a + b)).toNatClampNeg) else i
theorem lp_X4_find {ad : Nat → Nat → Nat → Nat} {o : wd_S} {x : Int32} : ∀ (k i : Nat) (a : Nat) (b : Nat), i + k = 12 → (1 ≤ a) → (a ≤ b) → (b ≤ 12) → AW ad MX4_countUntilFound 8 [some (.ref (ad 11 0 0)), some (.int x), some (.int (nI a)), some (.int (nI b)), some (.int (nI i)), none] [] o 0 0 (RT (some (.int (nI (cs_find (o.1 7) x (k) (i) a b)))) o) := by
  intro k
  induction k with
  | zero =>
    intro i a b hk ha hab hb
    have hi : i = 12 := by omega
    subst hi
    refine aw_iload (x := (nI 12)) rfl dX4_countUntilFound_8 ?_
    refine aw_bipush (v := 12) (by decide) dX4_countUntilFound_10 ?_
    refine aw_icmp_ge (tgt := 68) (by decide) dX4_countUntilFound_12 (fun _ => ?_) (fun z => absurd (by decide) z)
    refine aw_iload (x := (nI 12)) rfl dX4_countUntilFound_68 ?_
    exact aw_iret rfl (by decide) (by decide) dX4_countUntilFound_70 ⟨by first | rfl | (simp [cs_find, mem]; done) | (simp_all [cs_find, mem]; done), by first | rfl | (simp [cs_find, mem]; done) | (simp_all [cs_find, mem]; done)⟩
  | succ k ih =>
    intro i a b hk ha hab hb
    have hi : i < 12 := by omega
    refine aw_iload (x := (nI i)) rfl dX4_countUntilFound_8 ?_
    refine aw_bipush (v := 12) (by decide) dX4_countUntilFound_10 ?_
    refine aw_icmp_ge (tgt := 68) (by decide) dX4_countUntilFound_12 (fun z => absurd z (nI_ge (b := 12) hi (by decide))) (fun _ => ?_)
    refine aw_iload_n (x := (nI a)) rfl dX4_countUntilFound_15 ?_
    refine aw_iload_n (x := (nI b)) rfl dX4_countUntilFound_16 ?_
    refine aw_icmp_ge (tgt := 68) (by decide) dX4_countUntilFound_17 (fun b1 => ?_) (fun b1 => ?_)
    · skip
      refine aw_iload (x := (nI i)) rfl dX4_countUntilFound_68 ?_
      exact aw_iret rfl (by decide) (by decide) dX4_countUntilFound_70 ⟨by first | rfl | (simp [cs_find, mem, b1]; done) | (simp_all [cs_find, mem, b1]; done), by first | rfl | (simp [cs_find, mem, b1]; done) | (simp_all [cs_find, mem, b1]; done)⟩
    · skip
      refine aw_aload_n (x := ad 11 0 0) rfl dX4_countUntilFound_20 ?_
      refine aw_getr (q := (12, 0, 1)) wv11 rfl flX4_16 rfl rfl dX4_countUntilFound_21 ?_
      refine aw_iload_n (x := (nI a)) rfl dX4_countUntilFound_24 ?_
      refine aw_ald (x := a) (ty := 5) (q := (13, 1, a)) rfl (wv12 (by decide)) (wr12 (by omega)) (by show _ < 13; omega) rfl (by decide) (by decide) dX4_countUntilFound_25 ?_
      refine aw_iload_n (x := (nI b)) rfl dX4_countUntilFound_26 ?_
      refine aw_ild (x := b) (q := (7, 13 * a + b)) (y := o.1 7 (13 * a + b)) rfl (wv13 (j := 1) (i := a) (by decide) (by omega)) (wi13 (by omega)) rfl (by show _ < 13; omega) rfl dX4_countUntilFound_27 ?_
      refine aw_istore (L2 := [some (.ref (ad 11 0 0)), some (.int x), some (.int (nI a)), some (.int (nI b)), some (.int (nI i)), some (.int (o.1 7 (13 * a + b)))]) (by decide) rfl rfl dX4_countUntilFound_28 ?_
      refine aw_iload (x := (o.1 7 (13 * a + b))) rfl dX4_countUntilFound_30 ?_
      refine aw_iload_n (x := (nI a)) rfl dX4_countUntilFound_32 ?_
      refine aw_icmp_lt (tgt := 42) (by decide) dX4_countUntilFound_33 (fun b2 => ?_) (fun b2 => ?_)
      · skip
        refine aw_iload (x := (nI i)) rfl dX4_countUntilFound_42 ?_
        exact aw_iret rfl (by decide) (by decide) dX4_countUntilFound_44 ⟨by first | rfl | (simp [cs_find, mem, b1, b2]; done) | (simp_all [cs_find, mem, b1, b2]; done), by first | rfl | (simp [cs_find, mem, b1, b2]; done) | (simp_all [cs_find, mem, b1, b2]; done)⟩
      · skip
        refine aw_iload (x := (o.1 7 (13 * a + b))) rfl dX4_countUntilFound_36 ?_
        refine aw_iload_n (x := (nI b)) rfl dX4_countUntilFound_38 ?_
        refine aw_icmp_lt (tgt := 45) (by decide) dX4_countUntilFound_39 (fun b3 => ?_) (fun b3 => ?_)
        · skip
          obtain ⟨j, hj1, hj2, ej⟩ := fnd_j (by omega) (by omega) b2 b3
          have ec : (nI j).toNatClampNeg = j := nI_clamp (by omega)
          rw [ej] at b2 b3 ⊢
          refine aw_iload_n (x := x) rfl dX4_countUntilFound_45 ?_
          refine aw_iload (x := (nI j)) rfl dX4_countUntilFound_46 ?_
          refine aw_icmp_gt (tgt := 57) (by decide) dX4_countUntilFound_48 (fun b4 => ?_) (fun b4 => ?_)
          · skip
            refine aw_iload (x := (nI j)) rfl dX4_countUntilFound_57 ?_
            refine aw_iconst (v := 1) (by decide) dX4_countUntilFound_59 ?_
            refine aw_iaddz (z := nI (j + 1)) (nI_1 j) dX4_countUntilFound_60 ?_
            refine aw_istore_n (L2 := [some (.ref (ad 11 0 0)), some (.int x), some (.int (nI (j + 1))), some (.int (nI b)), some (.int (nI i)), some (.int (nI j))]) (by decide) rfl rfl dX4_countUntilFound_61 ?_
            refine aw_iinc (n := 1) (x := (nI i)) (v := nI (i + 1)) (L2 := [some (.ref (ad 11 0 0)), some (.int x), some (.int (nI (j + 1))), some (.int (nI b)), some (.int (nI (i + 1))), some (.int (nI j))]) rfl (nI_1 i) (by decide) rfl rfl dX4_countUntilFound_62 ?_
            refine aw_goto (tgt := 8) (by decide) dX4_countUntilFound_65 ?_
            have e9 : (RT (some (.int (nI (cs_find (o.1 7) x (k + 1) (i) a b)))) o) = (RT (some (.int (nI (cs_find (o.1 7) x (k) (i + 1) (j + 1) b)))) o) := by simp only [cs_find, b1, b2, b3, ec, ej, b4, ↓reduceIte]
            rw [e9]
            exact AW.locs (ih (i + 1) (j + 1) b (by omega) (by omega) (by omega) (by omega)) (lsub_keep (lsub_keep (lsub_keep (lsub_keep (lsub_keep (lsub_none lsub_nil))))))
          · skip
            refine aw_iload (x := (nI j)) rfl dX4_countUntilFound_51 ?_
            refine aw_istore_n (L2 := [some (.ref (ad 11 0 0)), some (.int x), some (.int (nI a)), some (.int (nI j)), some (.int (nI i)), some (.int (nI j))]) (by decide) rfl rfl dX4_countUntilFound_53 ?_
            refine aw_goto (tgt := 62) (by decide) dX4_countUntilFound_54 ?_
            refine aw_iinc (n := 1) (x := (nI i)) (v := nI (i + 1)) (L2 := [some (.ref (ad 11 0 0)), some (.int x), some (.int (nI a)), some (.int (nI j)), some (.int (nI (i + 1))), some (.int (nI j))]) rfl (nI_1 i) (by decide) rfl rfl dX4_countUntilFound_62 ?_
            refine aw_goto (tgt := 8) (by decide) dX4_countUntilFound_65 ?_
            have e9 : (RT (some (.int (nI (cs_find (o.1 7) x (k + 1) (i) a b)))) o) = (RT (some (.int (nI (cs_find (o.1 7) x (k) (i + 1) a j)))) o) := by simp only [cs_find, b1, b2, b3, ec, ej, b4, ↓reduceIte]
            rw [e9]
            exact AW.locs (ih (i + 1) a j (by omega) (by omega) (by omega) (by omega)) (lsub_keep (lsub_keep (lsub_keep (lsub_keep (lsub_keep (lsub_none lsub_nil))))))
        · skip
          refine aw_iload (x := (nI i)) rfl dX4_countUntilFound_42 ?_
          exact aw_iret rfl (by decide) (by decide) dX4_countUntilFound_44 ⟨by first | rfl | (simp [cs_find, mem, b1, b2, b3]; done) | (simp_all [cs_find, mem, b1, b2, b3]; done), by first | rfl | (simp [cs_find, mem, b1, b2, b3]; done) | (simp_all [cs_find, mem, b1, b2, b3]; done)⟩
theorem ct_X4_find {ad : Nat → Nat → Nat → Nat} {o : wd_S} {x : Int32} : CT ad MX4_countUntilFound [.ref (ad 11 0 0), .int x] o (RT (some (.int (nI (cs_find (o.1 7) x 12 0 1 12)))) o) := by
  refine CT.of (L := [some (.ref (ad 11 0 0)), some (.int x), none, none, none, none]) rfl rfl (by decide) (Nat.le_of_ble_eq_true rfl) rfl ?_
  refine aw_iconst (v := 1) (by decide) dX4_countUntilFound_0 ?_
  refine aw_istore_n (L2 := [some (.ref (ad 11 0 0)), some (.int x), some (.int 1), none, none, none]) (by decide) rfl rfl dX4_countUntilFound_1 ?_
  refine aw_bipush (v := 12) (by decide) dX4_countUntilFound_2 ?_
  refine aw_istore_n (L2 := [some (.ref (ad 11 0 0)), some (.int x), some (.int 1), some (.int 12), none, none]) (by decide) rfl rfl dX4_countUntilFound_4 ?_
  refine aw_iconst (v := 0) (by decide) dX4_countUntilFound_5 ?_
  refine aw_istore (L2 := [some (.ref (ad 11 0 0)), some (.int x), some (.int 1), some (.int 12), some (.int 0), none]) (by decide) rfl rfl dX4_countUntilFound_6 ?_
  exact AW.post (AW.locs (lp_X4_find 12 0 1 12 (by decide) (by decide) (by decide) (by decide)) (lsub_keep (lsub_keep (lsub_keep (lsub_keep (lsub_keep (lsub_keep lsub_nil))))))) (fun r o2 q => by simpa [] using q)
/-! what the tables hold: cost and best of a run of d + 1 spans from a on -/
theorem dpf_congr {f g : Nat → Int32} : ∀ (k i : Nat) (le w : Int32), (∀ j, i ≤ j → j < i + k → f j = g j) → dpf f k i le w = dpf g k i le w
  | 0, _, _, _, _ => rfl
  | k + 1, i, le, w, h => by
    have e : f i = g i := h i (Nat.le_refl i) (by omega)
    have t : ∀ (u v : Int32), dpf f k (i + 1) u v = dpf g k (i + 1) u v := fun u v => dpf_congr k (i + 1) u v (fun j h1 h2 => h j (by omega) (by omega))
    simp only [dpf, e, t]
theorem dpf_rg {f : Nat → Int32} : ∀ (k i : Nat) (le w : Int32), (dpf f k i le w).2 = w ∨ ∃ j, i ≤ j ∧ j < i + k ∧ (dpf f k i le w).2 = nI j
  | 0, _, _, _ => Or.inl rfl
  | k + 1, i, le, w => by
    have t : ∀ (u : Int32), ∃ j, i ≤ j ∧ j < i + (k + 1) ∧ (dpf f k (i + 1) u (nI i)).2 = nI j := fun u => by
      rcases dpf_rg (f := f) k (i + 1) u (nI i) with h | ⟨j, h1, h2, h3⟩
      · exact ⟨i, by omega, by omega, h⟩
      · exact ⟨j, by omega, by omega, h3⟩
    simp only [dpf]
    split
    · exact Or.inr (t _)
    · split
      · rcases dpf_rg (f := f) k (i + 1) le w with h | ⟨j, h1, h2, h3⟩
        · exact Or.inl h
        · exact Or.inr ⟨j, by omega, by omega, h3⟩
      · exact Or.inr (t _)
theorem dpf_r1 {f : Nat → Int32} (k i : Nat) (le : Int32) : ∃ j, i ≤ j ∧ j < i + (k + 1) ∧ (dpf f (k + 1) i le (-1)).2 = nI j := by
  simp only [dpf, if_true]
  rcases dpf_rg (f := f) k (i + 1) (f i) (nI i) with h | ⟨j, h1, h2, h3⟩
  · exact ⟨i, by omega, by omega, h⟩
  · exact ⟨j, by omega, by omega, h3⟩
def dpv (c : Nat → Nat → Int32) (d a : Nat) : Int32 × Int32 := dpf (fun i => c (i - a) a + c (a + d - (i + 1)) (i + 1)) d a 0 (-1)
def dpT (R : Nat → Int32) : Nat → Nat → Nat → Int32
  | 0, _, _ => 0
  | n + 1, d, a => if d < n then dpT R n d a else (if (dpv (dpT R n) d a).2 = -1 then 0 else R (a + d) + sumF R d a + (dpv (dpT R n) d a).1)
def dpC (R : Nat → Int32) (d a : Nat) : Int32 := dpT R (d + 1) d a
def dpD (R : Nat → Int32) (d a : Nat) : Int32 := (dpv (dpT R d) d a).2
theorem dpT_st (R : Nat → Int32) (d a : Nat) : ∀ n, d < n → dpT R n d a = dpC R d a
  | 0, h => absurd h (by omega)
  | n + 1, h => by
    by_cases h1 : d < n
    · rw [dpT, if_pos h1]; exact dpT_st R d a n h1
    · have : d = n := by omega
      subst this
      rfl
def okT (R : Nat → Int32) (T : TT) (x y : Nat) : Prop := T.1 (13 * x + y) = dpC R (y - x) x ∧ T.2 (13 * x + y) = dpD R (y - x) x
theorem pr_ok {R : Nat → Int32} {T : TT} {a b : Nat} (hab : a ≤ b) (h : ∀ x y, a ≤ x → x ≤ y → y ≤ b → y - x < b - a → okT R T x y) : okT R (cs_pr R T a b) a b := by
  have e : dpf (dpr T.1 a b) (b - a) a 0 (-1) = dpv (dpT R (b - a)) (b - a) a := by
    refine dpf_congr _ _ _ _ (fun j h1 h2 => ?_)
    show T.1 (13 * a + j) + T.1 (13 * (j + 1) + b) = dpT R (b - a) (j - a) a + dpT R (b - a) (a + (b - a) - (j + 1)) (j + 1)
    rw [(h a j (Nat.le_refl a) h1 (by omega) (by omega)).1, (h (j + 1) b (by omega) (by omega) (Nat.le_refl b) (by omega)).1, dpT_st R _ _ _ (by omega), dpT_st R _ _ _ (by omega), show a + (b - a) - (j + 1) = b - (j + 1) by omega]
  refine ⟨?_, ?_⟩
  · show upd T.1 (13 * a + b) _ (13 * a + b) = dpT R (b - a + 1) (b - a) a
    rw [upd_self, e]
    conv => rhs; rw [dpT, if_neg (Nat.lt_irrefl (b - a)), show a + (b - a) = b by omega]
  · show upd T.2 (13 * a + b) _ (13 * a + b) = (dpv (dpT R (b - a)) (b - a) a).2
    rw [upd_self, e]
theorem pr_ne {R : Nat → Int32} {T : TT} {a b x y : Nat} (hb : b ≤ 12) (hy : y ≤ 12) (hne : ¬ (x = a ∧ y = b)) (h : okT R T x y) : okT R (cs_pr R T a b) x y := by
  have e : 13 * x + y ≠ 13 * a + b := by omega
  exact ⟨(upd_ne _ _ e).trans h.1, (upd_ne _ _ e).trans h.2⟩
theorem pl2_ok {R : Nat → Int32} {A B d : Nat} (hB : B ≤ 12) : ∀ (k i : Nat) (T : TT), i + k + d = B + 1 → A ≤ i → (∀ x y, A ≤ x → x ≤ y → y ≤ B → (y - x < d ∨ (y - x = d ∧ x < i)) → okT R T x y) → ∀ x y, A ≤ x → x ≤ y → y ≤ B → y - x ≤ d → okT R (cs_pl2 R d k i T) x y
  | 0, i, T, hk, hi, h, x, y, h1, h2, h3, h4 => h x y h1 h2 h3 (by omega)
  | k + 1, i, T, hk, hi, h, x, y, h1, h2, h3, h4 => by
    refine pl2_ok hB k (i + 1) _ (by omega) (by omega) (fun x y h1 h2 h3 h4 => ?_) x y h1 h2 h3 h4
    by_cases hc : x = i ∧ y = i + d
    · obtain ⟨rfl, rfl⟩ := hc
      exact pr_ok (by omega) (fun x2 y2 g1 g2 g3 g4 => h x2 y2 (by omega) g2 (by omega) (by omega))
    · exact pr_ne (by omega) (by omega) hc (h x y h1 h2 h3 (by omega))
theorem pl1_ok {R : Nat → Int32} {A B : Nat} (hB : B ≤ 12) (hA : A ≤ B) : ∀ (k i : Nat) (T : TT), i + k + A = B + 1 → (∀ x y, A ≤ x → x ≤ y → y ≤ B → y - x < i → okT R T x y) → ∀ x y, A ≤ x → x ≤ y → y ≤ B → okT R (cs_pl1 R A B k i T) x y
  | 0, i, T, hk, h, x, y, h1, h2, h3 => h x y h1 h2 h3 (by omega)
  | k + 1, i, T, hk, h, x, y, h1, h2, h3 => by
    refine pl1_ok hB hA k (i + 1) _ (by omega) (fun x y h1 h2 h3 h4 => ?_) x y h1 h2 h3
    exact pl2_ok hB (B - i + 1 - A) A T (by omega) (Nat.le_refl A) (fun x2 y2 g1 g2 g3 g4 => h x2 y2 g1 g2 g3 (by omega)) x y h1 h2 h3 (by omega)
theorem plan_ok {R : Nat → Int32} {A B : Nat} (T : TT) (hB : B ≤ 12) (hA : A ≤ B) {x y : Nat} (h1 : A ≤ x) (h2 : x ≤ y) (h3 : y ≤ B) : okT R (cs_plan R A B T) x y := pl1_ok hB hA (B - A + 1) 0 T (by omega) (fun _ _ _ _ _ h => absurd h (by omega)) x y h1 h2 h3
theorem dpD_rg (R : Nat → Int32) {d a : Nat} (hd : 1 ≤ d) : ∃ j, a ≤ j ∧ j < a + d ∧ dpD R d a = nI j := by
  obtain ⟨e, rfl⟩ : ∃ e, d = e + 1 := ⟨d - 1, by omega⟩
  exact dpf_r1 e a 0
