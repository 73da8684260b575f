/-! the reference: its digest -/
theorem wd_jj (o : wd_S) (g h : Int64) : wd_j (wd_j o 0 g) 0 h = wd_j o 0 h := by
  refine Prod.ext rfl (Prod.ext rfl (funext fun x => ?_))
  show (if x = 0 then h else if x = 0 then g else o.2.2 x) = if x = 0 then h else o.2.2 x
  split <;> rfl
theorem ct_X8_mix {ad : Nat → Nat → Nat → Nat} {o : wd_S}  {v : Int32} : CT ad MX8_mix [.ref (ad 14 0 0), .int v] o (RT none (wd_j o 0 (mx (o.2.2 0) v))) := by
  refine CT.of (L := [some (.ref (ad 14 0 0)), some (.int v)]) rfl rfl (by decide) (Nat.le_of_ble_eq_true rfl) rfl ?_
  refine aw_aload_n (x := ad 14 0 0) rfl dX8_mix_0 ?_
  refine aw_ldc2 (v := 31) wq1184 dX8_mix_1 ?_
  refine aw_aload_n (x := ad 14 0 0) rfl dX8_mix_4 ?_
  refine aw_getl flX8_158 dX8_mix_5 ?_
  refine aw_lmul dX8_mix_8 ?_
  refine aw_iload_n (x := v) rfl dX8_mix_9 ?_
  refine aw_i2l dX8_mix_10 ?_
  refine aw_ladd dX8_mix_11 ?_
  refine aw_putl fwX8_158 dX8_mix_12 ?_
  exact aw_vret rfl (by decide) (by decide) dX8_mix_15 ⟨rfl, rfl⟩
theorem ct_mixg {ad : Nat → Nat → Nat → Nat} {o : wd_S} {g : Int64} {v : Int32} : CT ad MX8_mix [.ref (ad 14 0 0), .int v] (wd_j o 0 g) (RT none (wd_j o 0 (mx g v))) := by
  have h := ct_X8_mix (ad := ad) (o := wd_j o 0 g) (v := v)
  rw [wd_jj] at h
  exact h
def mf_mixl (N : Nat → Int32) (m l : Nat) : List Int32 := [mf_tl N m l 0, mf_tl N m l 1, mf_tl N m l 2, mf_tl N m l 3, mf_tl N m l 4, mf_tl N m l 5, mf_tl N m l 6, mf_tl N m l 7, mf_tl N m l 8, mf_hear N l, sumF (mf_cost N l) m 0, N (20 * l + 9), N (20 * l + 10), N (20 * l + 11), N (20 * l + 12), N (20 * l + 13), N (20 * l + 14), N (20 * l + 15), N (20 * l + 16), N (20 * l + 17), N (20 * l + 18), N (20 * l + 19), N (20 * l + 20)]
def mf_mixs (N : Nat → Int32) (l s : Nat) : List Int32 := [mf_told N l s 0, mf_told N l s 1, mf_told N l s 2, mf_told N l s 3, mf_told N l s 4, mf_told N l s 5, mf_told N l s 6, mf_told N l s 7]
def rf_dgl (N : Nat → Int32) (m : Nat) : Nat → Nat → Int64 → Int64
  | 0, _, h => h
  | k + 1, i, h => rf_dgl N m k (i + 1) (mxs (mf_mixl N m i) h)
def rf_dgs (N : Nat → Int32) : Nat → Nat → Int64 → Int64
  | 0, _, h => h
  | k + 1, i, h => rf_dgs N k (i + 1) (mxs (mf_mixs N (hm N i) i) h)
def rf_dg1 (N : Nat → Int32) (c : Nat) (h : Int64) : Int64 := mxs [N 231, N 232, N 233, N 234, N 235, N 236, nI c] (mx h (N 230))
def rf_dg (N : Nat → Int32) (n m c : Nat) (h : Int64) : Int64 := rf_dg1 N c (rf_dgs N m 0 (mx (rf_dgl N m n 0 (mx h (nI n))) (nI m)))
theorem lp_dl {ad : Nat → Nat → Nat → Nat} {o : wd_S} {F : (Option Value ⊕ String) → wd_S → Prop} {n m : Nat} (J : mi (o.1 8) n m) : ∀ (k i : Nat) (h : Int64), i + k = n → AW ad MX8_digest 109 [some (.ref (ad 14 0 0)), none, none] [] (wd_j o 0 (rf_dgl (o.1 8) m k i h)) 0 0 F → AW ad MX8_digest 24 [some (.ref (ad 14 0 0)), some (.int (nI i)), none] [] (wd_j o 0 h) 0 0 F := by
  have G := J.1
  have g2 := G.2.1
  intro k
  induction k with
  | zero =>
    intro i h hk K
    refine aw_iload_n (x := (nI i)) rfl dX8_digest_24 ?_
    refine aw_aload_n (x := ad 14 0 0) rfl dX8_digest_25 ?_
    refine aw_getr (q := (15, 0, 0)) wv14 rfl flX8_7 rfl rfl dX8_digest_26 ?_
    refine aw_iconst (v := 0) (by decide) dX8_digest_29 ?_
    refine aw_ild (x := 0) (q := (8, 0)) (y := nI n) (by decide) (wv15 (by decide)) rfl G.1 (Nat.le_of_ble_eq_true rfl) rfl dX8_digest_30 ?_
    refine aw_icmp_ge (tgt := 109) (by decide) dX8_digest_31 (fun _ => ?_) (fun z => absurd (nI_le (by omega) (by omega)) z)
    exact AW.locs K (lsub_keep (lsub_none (lsub_keep lsub_nil)))
  | succ k ih =>
    intro i h hk K
    refine aw_iload_n (x := (nI i)) rfl dX8_digest_24 ?_
    refine aw_aload_n (x := ad 14 0 0) rfl dX8_digest_25 ?_
    refine aw_getr (q := (15, 0, 0)) wv14 rfl flX8_7 rfl rfl dX8_digest_26 ?_
    refine aw_iconst (v := 0) (by decide) dX8_digest_29 ?_
    refine aw_ild (x := 0) (q := (8, 0)) (y := nI n) (by decide) (wv15 (by decide)) rfl G.1 (Nat.le_of_ble_eq_true rfl) rfl dX8_digest_30 ?_
    refine aw_icmp_ge (tgt := 109) (by decide) dX8_digest_31 (fun z => absurd z (nI_ge (by omega) (by omega))) (fun _ => ?_)
    refine aw_iconst (v := 0) (by decide) dX8_digest_34 ?_
    refine aw_istore_n (L2 := [some (.ref (ad 14 0 0)), some (.int (nI i)), some (.int 0)]) (by decide) rfl rfl dX8_digest_35 ?_
    refine aw_iload_n (x := 0) rfl dX8_digest_36 ?_
    refine aw_bipush (v := 9) (by decide) dX8_digest_37 ?_
    refine aw_icmp_ge (tgt := 58) (by decide) dX8_digest_39 (fun z => absurd z (by decide)) (fun _ => ?_)
    refine aw_aload_n (x := ad 14 0 0) rfl dX8_digest_42 ?_
    refine aw_aload_n (x := ad 14 0 0) rfl dX8_digest_43 ?_
    refine aw_iload_n (x := (nI i)) rfl dX8_digest_44 ?_
    refine aw_iload_n (x := 0) rfl dX8_digest_45 ?_
    refine aw_rV (As := [.int (nI i), .int 0]) (S := [.ref (ad 14 0 0)]) (v := some (.int (mf_tl (o.1 8) m i 0))) (o2 := (wd_j o 0 h)) (ct_X8_tl_0 (o := wd_j o 0 h) G (by omega)) (mm_fit_of cbX8_toldLoop (by decide) (by decide)) wq1001 cvX8_toldLoop wv14 rfl rfl rfl (Nat.le_of_ble_eq_true rfl) (by decide) (by decide) rfl dX8_digest_46 ?_
    refine aw_rV (As := [.int (mf_tl (o.1 8) m i 0)]) (S := []) (v := none) (o2 := (wd_j o 0 (mx h (mf_tl (o.1 8) m i 0)))) ct_mixg (mm_fit_of cbX8_mix (by decide) (by decide)) wq1180 cvX8_mix wv14 rfl rfl rfl (Nat.le_of_ble_eq_true rfl) (by decide) (by decide) rfl dX8_digest_49 ?_
    obtain ⟨g1, hg1⟩ : ∃ z, z = mx h (mf_tl (o.1 8) m i 0) := ⟨_, rfl⟩
    rw [← hg1]
    refine aw_iinc (n := 1) (x := 0) (v := 1) (L2 := [some (.ref (ad 14 0 0)), some (.int (nI i)), some (.int 1)]) rfl (by decide) (by decide) rfl rfl dX8_digest_52 ?_
    refine aw_goto (tgt := 36) (by decide) dX8_digest_55 ?_
    refine aw_iload_n (x := 1) rfl dX8_digest_36 ?_
    refine aw_bipush (v := 9) (by decide) dX8_digest_37 ?_
    refine aw_icmp_ge (tgt := 58) (by decide) dX8_digest_39 (fun z => absurd z (by decide)) (fun _ => ?_)
    refine aw_aload_n (x := ad 14 0 0) rfl dX8_digest_42 ?_
    refine aw_aload_n (x := ad 14 0 0) rfl dX8_digest_43 ?_
    refine aw_iload_n (x := (nI i)) rfl dX8_digest_44 ?_
    refine aw_iload_n (x := 1) rfl dX8_digest_45 ?_
    refine aw_rV (As := [.int (nI i), .int 1]) (S := [.ref (ad 14 0 0)]) (v := some (.int (mf_tl (o.1 8) m i 1))) (o2 := (wd_j o 0 g1)) (ct_X8_tl_1 (o := wd_j o 0 g1) G (by omega)) (mm_fit_of cbX8_toldLoop (by decide) (by decide)) wq1001 cvX8_toldLoop wv14 rfl rfl rfl (Nat.le_of_ble_eq_true rfl) (by decide) (by decide) rfl dX8_digest_46 ?_
    refine aw_rV (As := [.int (mf_tl (o.1 8) m i 1)]) (S := []) (v := none) (o2 := (wd_j o 0 (mx g1 (mf_tl (o.1 8) m i 1)))) ct_mixg (mm_fit_of cbX8_mix (by decide) (by decide)) wq1180 cvX8_mix wv14 rfl rfl rfl (Nat.le_of_ble_eq_true rfl) (by decide) (by decide) rfl dX8_digest_49 ?_
    obtain ⟨g2, hg2⟩ : ∃ z, z = mx g1 (mf_tl (o.1 8) m i 1) := ⟨_, rfl⟩
    rw [← hg2]
    refine aw_iinc (n := 1) (x := 1) (v := 2) (L2 := [some (.ref (ad 14 0 0)), some (.int (nI i)), some (.int 2)]) rfl (by decide) (by decide) rfl rfl dX8_digest_52 ?_
    refine aw_goto (tgt := 36) (by decide) dX8_digest_55 ?_
    refine aw_iload_n (x := 2) rfl dX8_digest_36 ?_
    refine aw_bipush (v := 9) (by decide) dX8_digest_37 ?_
    refine aw_icmp_ge (tgt := 58) (by decide) dX8_digest_39 (fun z => absurd z (by decide)) (fun _ => ?_)
    refine aw_aload_n (x := ad 14 0 0) rfl dX8_digest_42 ?_
    refine aw_aload_n (x := ad 14 0 0) rfl dX8_digest_43 ?_
    refine aw_iload_n (x := (nI i)) rfl dX8_digest_44 ?_
    refine aw_iload_n (x := 2) rfl dX8_digest_45 ?_
    refine aw_rV (As := [.int (nI i), .int 2]) (S := [.ref (ad 14 0 0)]) (v := some (.int (mf_tl (o.1 8) m i 2))) (o2 := (wd_j o 0 g2)) (ct_X8_tl_2 (o := wd_j o 0 g2) G (by omega)) (mm_fit_of cbX8_toldLoop (by decide) (by decide)) wq1001 cvX8_toldLoop wv14 rfl rfl rfl (Nat.le_of_ble_eq_true rfl) (by decide) (by decide) rfl dX8_digest_46 ?_
    refine aw_rV (As := [.int (mf_tl (o.1 8) m i 2)]) (S := []) (v := none) (o2 := (wd_j o 0 (mx g2 (mf_tl (o.1 8) m i 2)))) ct_mixg (mm_fit_of cbX8_mix (by decide) (by decide)) wq1180 cvX8_mix wv14 rfl rfl rfl (Nat.le_of_ble_eq_true rfl) (by decide) (by decide) rfl dX8_digest_49 ?_
    obtain ⟨g3, hg3⟩ : ∃ z, z = mx g2 (mf_tl (o.1 8) m i 2) := ⟨_, rfl⟩
    rw [← hg3]
    refine aw_iinc (n := 1) (x := 2) (v := 3) (L2 := [some (.ref (ad 14 0 0)), some (.int (nI i)), some (.int 3)]) rfl (by decide) (by decide) rfl rfl dX8_digest_52 ?_
    refine aw_goto (tgt := 36) (by decide) dX8_digest_55 ?_
    refine aw_iload_n (x := 3) rfl dX8_digest_36 ?_
    refine aw_bipush (v := 9) (by decide) dX8_digest_37 ?_
    refine aw_icmp_ge (tgt := 58) (by decide) dX8_digest_39 (fun z => absurd z (by decide)) (fun _ => ?_)
    refine aw_aload_n (x := ad 14 0 0) rfl dX8_digest_42 ?_
    refine aw_aload_n (x := ad 14 0 0) rfl dX8_digest_43 ?_
    refine aw_iload_n (x := (nI i)) rfl dX8_digest_44 ?_
    refine aw_iload_n (x := 3) rfl dX8_digest_45 ?_
    refine aw_rV (As := [.int (nI i), .int 3]) (S := [.ref (ad 14 0 0)]) (v := some (.int (mf_tl (o.1 8) m i 3))) (o2 := (wd_j o 0 g3)) (ct_X8_tl_3 (o := wd_j o 0 g3) G (by omega)) (mm_fit_of cbX8_toldLoop (by decide) (by decide)) wq1001 cvX8_toldLoop wv14 rfl rfl rfl (Nat.le_of_ble_eq_true rfl) (by decide) (by decide) rfl dX8_digest_46 ?_
    refine aw_rV (As := [.int (mf_tl (o.1 8) m i 3)]) (S := []) (v := none) (o2 := (wd_j o 0 (mx g3 (mf_tl (o.1 8) m i 3)))) ct_mixg (mm_fit_of cbX8_mix (by decide) (by decide)) wq1180 cvX8_mix wv14 rfl rfl rfl (Nat.le_of_ble_eq_true rfl) (by decide) (by decide) rfl dX8_digest_49 ?_
    obtain ⟨g4, hg4⟩ : ∃ z, z = mx g3 (mf_tl (o.1 8) m i 3) := ⟨_, rfl⟩
    rw [← hg4]
    refine aw_iinc (n := 1) (x := 3) (v := 4) (L2 := [some (.ref (ad 14 0 0)), some (.int (nI i)), some (.int 4)]) rfl (by decide) (by decide) rfl rfl dX8_digest_52 ?_
    refine aw_goto (tgt := 36) (by decide) dX8_digest_55 ?_
    refine aw_iload_n (x := 4) rfl dX8_digest_36 ?_
    refine aw_bipush (v := 9) (by decide) dX8_digest_37 ?_
    refine aw_icmp_ge (tgt := 58) (by decide) dX8_digest_39 (fun z => absurd z (by decide)) (fun _ => ?_)
    refine aw_aload_n (x := ad 14 0 0) rfl dX8_digest_42 ?_
    refine aw_aload_n (x := ad 14 0 0) rfl dX8_digest_43 ?_
    refine aw_iload_n (x := (nI i)) rfl dX8_digest_44 ?_
    refine aw_iload_n (x := 4) rfl dX8_digest_45 ?_
    refine aw_rV (As := [.int (nI i), .int 4]) (S := [.ref (ad 14 0 0)]) (v := some (.int (mf_tl (o.1 8) m i 4))) (o2 := (wd_j o 0 g4)) (ct_X8_tl_4 (o := wd_j o 0 g4) G (by omega)) (mm_fit_of cbX8_toldLoop (by decide) (by decide)) wq1001 cvX8_toldLoop wv14 rfl rfl rfl (Nat.le_of_ble_eq_true rfl) (by decide) (by decide) rfl dX8_digest_46 ?_
    refine aw_rV (As := [.int (mf_tl (o.1 8) m i 4)]) (S := []) (v := none) (o2 := (wd_j o 0 (mx g4 (mf_tl (o.1 8) m i 4)))) ct_mixg (mm_fit_of cbX8_mix (by decide) (by decide)) wq1180 cvX8_mix wv14 rfl rfl rfl (Nat.le_of_ble_eq_true rfl) (by decide) (by decide) rfl dX8_digest_49 ?_
    obtain ⟨g5, hg5⟩ : ∃ z, z = mx g4 (mf_tl (o.1 8) m i 4) := ⟨_, rfl⟩
    rw [← hg5]
    refine aw_iinc (n := 1) (x := 4) (v := 5) (L2 := [some (.ref (ad 14 0 0)), some (.int (nI i)), some (.int 5)]) rfl (by decide) (by decide) rfl rfl dX8_digest_52 ?_
    refine aw_goto (tgt := 36) (by decide) dX8_digest_55 ?_
    refine aw_iload_n (x := 5) rfl dX8_digest_36 ?_
    refine aw_bipush (v := 9) (by decide) dX8_digest_37 ?_
    refine aw_icmp_ge (tgt := 58) (by decide) dX8_digest_39 (fun z => absurd z (by decide)) (fun _ => ?_)
    refine aw_aload_n (x := ad 14 0 0) rfl dX8_digest_42 ?_
    refine aw_aload_n (x := ad 14 0 0) rfl dX8_digest_43 ?_
    refine aw_iload_n (x := (nI i)) rfl dX8_digest_44 ?_
    refine aw_iload_n (x := 5) rfl dX8_digest_45 ?_
    refine aw_rV (As := [.int (nI i), .int 5]) (S := [.ref (ad 14 0 0)]) (v := some (.int (mf_tl (o.1 8) m i 5))) (o2 := (wd_j o 0 g5)) (ct_X8_tl_5 (o := wd_j o 0 g5) G (by omega)) (mm_fit_of cbX8_toldLoop (by decide) (by decide)) wq1001 cvX8_toldLoop wv14 rfl rfl rfl (Nat.le_of_ble_eq_true rfl) (by decide) (by decide) rfl dX8_digest_46 ?_
    refine aw_rV (As := [.int (mf_tl (o.1 8) m i 5)]) (S := []) (v := none) (o2 := (wd_j o 0 (mx g5 (mf_tl (o.1 8) m i 5)))) ct_mixg (mm_fit_of cbX8_mix (by decide) (by decide)) wq1180 cvX8_mix wv14 rfl rfl rfl (Nat.le_of_ble_eq_true rfl) (by decide) (by decide) rfl dX8_digest_49 ?_
    obtain ⟨g6, hg6⟩ : ∃ z, z = mx g5 (mf_tl (o.1 8) m i 5) := ⟨_, rfl⟩
    rw [← hg6]
    refine aw_iinc (n := 1) (x := 5) (v := 6) (L2 := [some (.ref (ad 14 0 0)), some (.int (nI i)), some (.int 6)]) rfl (by decide) (by decide) rfl rfl dX8_digest_52 ?_
    refine aw_goto (tgt := 36) (by decide) dX8_digest_55 ?_
    refine aw_iload_n (x := 6) rfl dX8_digest_36 ?_
    refine aw_bipush (v := 9) (by decide) dX8_digest_37 ?_
    refine aw_icmp_ge (tgt := 58) (by decide) dX8_digest_39 (fun z => absurd z (by decide)) (fun _ => ?_)
    refine aw_aload_n (x := ad 14 0 0) rfl dX8_digest_42 ?_
    refine aw_aload_n (x := ad 14 0 0) rfl dX8_digest_43 ?_
    refine aw_iload_n (x := (nI i)) rfl dX8_digest_44 ?_
    refine aw_iload_n (x := 6) rfl dX8_digest_45 ?_
    refine aw_rV (As := [.int (nI i), .int 6]) (S := [.ref (ad 14 0 0)]) (v := some (.int (mf_tl (o.1 8) m i 6))) (o2 := (wd_j o 0 g6)) (ct_X8_tl_6 (o := wd_j o 0 g6) G (by omega)) (mm_fit_of cbX8_toldLoop (by decide) (by decide)) wq1001 cvX8_toldLoop wv14 rfl rfl rfl (Nat.le_of_ble_eq_true rfl) (by decide) (by decide) rfl dX8_digest_46 ?_
    refine aw_rV (As := [.int (mf_tl (o.1 8) m i 6)]) (S := []) (v := none) (o2 := (wd_j o 0 (mx g6 (mf_tl (o.1 8) m i 6)))) ct_mixg (mm_fit_of cbX8_mix (by decide) (by decide)) wq1180 cvX8_mix wv14 rfl rfl rfl (Nat.le_of_ble_eq_true rfl) (by decide) (by decide) rfl dX8_digest_49 ?_
    obtain ⟨g7, hg7⟩ : ∃ z, z = mx g6 (mf_tl (o.1 8) m i 6) := ⟨_, rfl⟩
    rw [← hg7]
    refine aw_iinc (n := 1) (x := 6) (v := 7) (L2 := [some (.ref (ad 14 0 0)), some (.int (nI i)), some (.int 7)]) rfl (by decide) (by decide) rfl rfl dX8_digest_52 ?_
    refine aw_goto (tgt := 36) (by decide) dX8_digest_55 ?_
    refine aw_iload_n (x := 7) rfl dX8_digest_36 ?_
    refine aw_bipush (v := 9) (by decide) dX8_digest_37 ?_
    refine aw_icmp_ge (tgt := 58) (by decide) dX8_digest_39 (fun z => absurd z (by decide)) (fun _ => ?_)
    refine aw_aload_n (x := ad 14 0 0) rfl dX8_digest_42 ?_
    refine aw_aload_n (x := ad 14 0 0) rfl dX8_digest_43 ?_
    refine aw_iload_n (x := (nI i)) rfl dX8_digest_44 ?_
    refine aw_iload_n (x := 7) rfl dX8_digest_45 ?_
    refine aw_rV (As := [.int (nI i), .int 7]) (S := [.ref (ad 14 0 0)]) (v := some (.int (mf_tl (o.1 8) m i 7))) (o2 := (wd_j o 0 g7)) (ct_X8_tl_7 (o := wd_j o 0 g7) G (by omega)) (mm_fit_of cbX8_toldLoop (by decide) (by decide)) wq1001 cvX8_toldLoop wv14 rfl rfl rfl (Nat.le_of_ble_eq_true rfl) (by decide) (by decide) rfl dX8_digest_46 ?_
    refine aw_rV (As := [.int (mf_tl (o.1 8) m i 7)]) (S := []) (v := none) (o2 := (wd_j o 0 (mx g7 (mf_tl (o.1 8) m i 7)))) ct_mixg (mm_fit_of cbX8_mix (by decide) (by decide)) wq1180 cvX8_mix wv14 rfl rfl rfl (Nat.le_of_ble_eq_true rfl) (by decide) (by decide) rfl dX8_digest_49 ?_
    obtain ⟨g8, hg8⟩ : ∃ z, z = mx g7 (mf_tl (o.1 8) m i 7) := ⟨_, rfl⟩
    rw [← hg8]
    refine aw_iinc (n := 1) (x := 7) (v := 8) (L2 := [some (.ref (ad 14 0 0)), some (.int (nI i)), some (.int 8)]) rfl (by decide) (by decide) rfl rfl dX8_digest_52 ?_
    refine aw_goto (tgt := 36) (by decide) dX8_digest_55 ?_
    refine aw_iload_n (x := 8) rfl dX8_digest_36 ?_
    refine aw_bipush (v := 9) (by decide) dX8_digest_37 ?_
    refine aw_icmp_ge (tgt := 58) (by decide) dX8_digest_39 (fun z => absurd z (by decide)) (fun _ => ?_)
    refine aw_aload_n (x := ad 14 0 0) rfl dX8_digest_42 ?_
    refine aw_aload_n (x := ad 14 0 0) rfl dX8_digest_43 ?_
    refine aw_iload_n (x := (nI i)) rfl dX8_digest_44 ?_
    refine aw_iload_n (x := 8) rfl dX8_digest_45 ?_
    refine aw_rV (As := [.int (nI i), .int 8]) (S := [.ref (ad 14 0 0)]) (v := some (.int (mf_tl (o.1 8) m i 8))) (o2 := (wd_j o 0 g8)) (ct_X8_tl_8 (o := wd_j o 0 g8) G (by omega)) (mm_fit_of cbX8_toldLoop (by decide) (by decide)) wq1001 cvX8_toldLoop wv14 rfl rfl rfl (Nat.le_of_ble_eq_true rfl) (by decide) (by decide) rfl dX8_digest_46 ?_
    refine aw_rV (As := [.int (mf_tl (o.1 8) m i 8)]) (S := []) (v := none) (o2 := (wd_j o 0 (mx g8 (mf_tl (o.1 8) m i 8)))) ct_mixg (mm_fit_of cbX8_mix (by decide) (by decide)) wq1180 cvX8_mix wv14 rfl rfl rfl (Nat.le_of_ble_eq_true rfl) (by decide) (by decide) rfl dX8_digest_49 ?_
    obtain ⟨g9, hg9⟩ : ∃ z, z = mx g8 (mf_tl (o.1 8) m i 8) := ⟨_, rfl⟩
    rw [← hg9]
    refine aw_iinc (n := 1) (x := 8) (v := 9) (L2 := [some (.ref (ad 14 0 0)), some (.int (nI i)), some (.int 9)]) rfl (by decide) (by decide) rfl rfl dX8_digest_52 ?_
    refine aw_goto (tgt := 36) (by decide) dX8_digest_55 ?_
    refine aw_iload_n (x := 9) rfl dX8_digest_36 ?_
    refine aw_bipush (v := 9) (by decide) dX8_digest_37 ?_
    refine aw_icmp_ge (tgt := 58) (by decide) dX8_digest_39 (fun _ => ?_) (fun z => absurd z (by decide))
    refine aw_aload_n (x := ad 14 0 0) rfl dX8_digest_58 ?_
    refine aw_aload_n (x := ad 14 0 0) rfl dX8_digest_59 ?_
    refine aw_iload_n (x := (nI i)) rfl dX8_digest_60 ?_
    refine aw_rV (As := [.int (nI i)]) (S := [.ref (ad 14 0 0)]) (v := some (.int (mf_hear (o.1 8) i))) (o2 := (wd_j o 0 g9)) (ct_X8_hear (o := wd_j o 0 g9) J (by omega)) (mm_fit_of cbX8_heardIn (by decide) (by decide)) wq1094 cvX8_heardIn wv14 rfl rfl rfl (Nat.le_of_ble_eq_true rfl) (by decide) (by decide) rfl dX8_digest_61 ?_
    refine aw_rV (As := [.int (mf_hear (o.1 8) i)]) (S := []) (v := none) (o2 := (wd_j o 0 (mx g9 (mf_hear (o.1 8) i)))) ct_mixg (mm_fit_of cbX8_mix (by decide) (by decide)) wq1180 cvX8_mix wv14 rfl rfl rfl (Nat.le_of_ble_eq_true rfl) (by decide) (by decide) rfl dX8_digest_64 ?_
    obtain ⟨g10, hg10⟩ : ∃ z, z = mx g9 (mf_hear (o.1 8) i) := ⟨_, rfl⟩
    rw [← hg10]
    refine aw_aload_n (x := ad 14 0 0) rfl dX8_digest_67 ?_
    refine aw_aload_n (x := ad 14 0 0) rfl dX8_digest_68 ?_
    refine aw_iload_n (x := (nI i)) rfl dX8_digest_69 ?_
    refine aw_rV (As := [.int (nI i)]) (S := [.ref (ad 14 0 0)]) (v := some (.int (sumF (mf_cost (o.1 8) i) m 0))) (o2 := (wd_j o 0 g10)) (ct_X8_costOf (o := wd_j o 0 g10) G (by omega)) (mm_fit_of cbX8_costOf (by decide) (by decide)) wq1116 cvX8_costOf wv14 rfl rfl rfl (Nat.le_of_ble_eq_true rfl) (by decide) (by decide) rfl dX8_digest_70 ?_
    refine aw_rV (As := [.int (sumF (mf_cost (o.1 8) i) m 0)]) (S := []) (v := none) (o2 := (wd_j o 0 (mx g10 (sumF (mf_cost (o.1 8) i) m 0)))) ct_mixg (mm_fit_of cbX8_mix (by decide) (by decide)) wq1180 cvX8_mix wv14 rfl rfl rfl (Nat.le_of_ble_eq_true rfl) (by decide) (by decide) rfl dX8_digest_73 ?_
    obtain ⟨g11, hg11⟩ : ∃ z, z = mx g10 (sumF (mf_cost (o.1 8) i) m 0) := ⟨_, rfl⟩
    rw [← hg11]
    refine aw_iconst (v := 0) (by decide) dX8_digest_76 ?_
    refine aw_istore_n (L2 := [some (.ref (ad 14 0 0)), some (.int (nI i)), some (.int 0)]) (by decide) rfl rfl dX8_digest_77 ?_
    refine aw_iload_n (x := 0) rfl dX8_digest_78 ?_
    refine aw_bipush (v := 12) (by decide) dX8_digest_79 ?_
    refine aw_icmp_ge (tgt := 103) (by decide) dX8_digest_81 (fun z => absurd z (by decide)) (fun _ => ?_)
    refine aw_aload_n (x := ad 14 0 0) rfl dX8_digest_84 ?_
    refine aw_aload_n (x := ad 14 0 0) rfl dX8_digest_85 ?_
    refine aw_iload_n (x := (nI i)) rfl dX8_digest_86 ?_
    refine aw_bipush (v := 8) (by decide) dX8_digest_87 ?_
    refine aw_iload_n (x := 0) rfl dX8_digest_89 ?_
    refine aw_iaddz (z := 8) (by decide) dX8_digest_90 ?_
    refine aw_rV (As := [.int (nI i), .int 8]) (S := [.ref (ad 14 0 0)]) (v := some (.int (o.1 8 (20 * i + 9)))) (o2 := (wd_j o 0 g11)) (ct_X8_of (l := i) (w := 8) (by omega) (by decide)) (mm_fit_of cbX8_of (by decide) (by decide)) wq969 cvX8_of wv14 rfl rfl rfl (Nat.le_of_ble_eq_true rfl) (by decide) (by decide) rfl dX8_digest_91 ?_
    refine aw_rV (As := [.int (o.1 8 (20 * i + 9))]) (S := []) (v := none) (o2 := (wd_j o 0 (mx g11 (o.1 8 (20 * i + 9))))) ct_mixg (mm_fit_of cbX8_mix (by decide) (by decide)) wq1180 cvX8_mix wv14 rfl rfl rfl (Nat.le_of_ble_eq_true rfl) (by decide) (by decide) rfl dX8_digest_94 ?_
    obtain ⟨g12, hg12⟩ : ∃ z, z = mx g11 (o.1 8 (20 * i + 9)) := ⟨_, rfl⟩
    rw [← hg12]
    refine aw_iinc (n := 1) (x := 0) (v := 1) (L2 := [some (.ref (ad 14 0 0)), some (.int (nI i)), some (.int 1)]) rfl (by decide) (by decide) rfl rfl dX8_digest_97 ?_
    refine aw_goto (tgt := 78) (by decide) dX8_digest_100 ?_
    refine aw_iload_n (x := 1) rfl dX8_digest_78 ?_
    refine aw_bipush (v := 12) (by decide) dX8_digest_79 ?_
    refine aw_icmp_ge (tgt := 103) (by decide) dX8_digest_81 (fun z => absurd z (by decide)) (fun _ => ?_)
    refine aw_aload_n (x := ad 14 0 0) rfl dX8_digest_84 ?_
    refine aw_aload_n (x := ad 14 0 0) rfl dX8_digest_85 ?_
    refine aw_iload_n (x := (nI i)) rfl dX8_digest_86 ?_
    refine aw_bipush (v := 8) (by decide) dX8_digest_87 ?_
    refine aw_iload_n (x := 1) rfl dX8_digest_89 ?_
    refine aw_iaddz (z := 9) (by decide) dX8_digest_90 ?_
    refine aw_rV (As := [.int (nI i), .int 9]) (S := [.ref (ad 14 0 0)]) (v := some (.int (o.1 8 (20 * i + 10)))) (o2 := (wd_j o 0 g12)) (ct_X8_of (l := i) (w := 9) (by omega) (by decide)) (mm_fit_of cbX8_of (by decide) (by decide)) wq969 cvX8_of wv14 rfl rfl rfl (Nat.le_of_ble_eq_true rfl) (by decide) (by decide) rfl dX8_digest_91 ?_
    refine aw_rV (As := [.int (o.1 8 (20 * i + 10))]) (S := []) (v := none) (o2 := (wd_j o 0 (mx g12 (o.1 8 (20 * i + 10))))) ct_mixg (mm_fit_of cbX8_mix (by decide) (by decide)) wq1180 cvX8_mix wv14 rfl rfl rfl (Nat.le_of_ble_eq_true rfl) (by decide) (by decide) rfl dX8_digest_94 ?_
    obtain ⟨g13, hg13⟩ : ∃ z, z = mx g12 (o.1 8 (20 * i + 10)) := ⟨_, rfl⟩
    rw [← hg13]
    refine aw_iinc (n := 1) (x := 1) (v := 2) (L2 := [some (.ref (ad 14 0 0)), some (.int (nI i)), some (.int 2)]) rfl (by decide) (by decide) rfl rfl dX8_digest_97 ?_
    refine aw_goto (tgt := 78) (by decide) dX8_digest_100 ?_
    refine aw_iload_n (x := 2) rfl dX8_digest_78 ?_
    refine aw_bipush (v := 12) (by decide) dX8_digest_79 ?_
    refine aw_icmp_ge (tgt := 103) (by decide) dX8_digest_81 (fun z => absurd z (by decide)) (fun _ => ?_)
    refine aw_aload_n (x := ad 14 0 0) rfl dX8_digest_84 ?_
    refine aw_aload_n (x := ad 14 0 0) rfl dX8_digest_85 ?_
    refine aw_iload_n (x := (nI i)) rfl dX8_digest_86 ?_
    refine aw_bipush (v := 8) (by decide) dX8_digest_87 ?_
    refine aw_iload_n (x := 2) rfl dX8_digest_89 ?_
    refine aw_iaddz (z := 10) (by decide) dX8_digest_90 ?_
    refine aw_rV (As := [.int (nI i), .int 10]) (S := [.ref (ad 14 0 0)]) (v := some (.int (o.1 8 (20 * i + 11)))) (o2 := (wd_j o 0 g13)) (ct_X8_of (l := i) (w := 10) (by omega) (by decide)) (mm_fit_of cbX8_of (by decide) (by decide)) wq969 cvX8_of wv14 rfl rfl rfl (Nat.le_of_ble_eq_true rfl) (by decide) (by decide) rfl dX8_digest_91 ?_
    refine aw_rV (As := [.int (o.1 8 (20 * i + 11))]) (S := []) (v := none) (o2 := (wd_j o 0 (mx g13 (o.1 8 (20 * i + 11))))) ct_mixg (mm_fit_of cbX8_mix (by decide) (by decide)) wq1180 cvX8_mix wv14 rfl rfl rfl (Nat.le_of_ble_eq_true rfl) (by decide) (by decide) rfl dX8_digest_94 ?_
    obtain ⟨g14, hg14⟩ : ∃ z, z = mx g13 (o.1 8 (20 * i + 11)) := ⟨_, rfl⟩
    rw [← hg14]
    refine aw_iinc (n := 1) (x := 2) (v := 3) (L2 := [some (.ref (ad 14 0 0)), some (.int (nI i)), some (.int 3)]) rfl (by decide) (by decide) rfl rfl dX8_digest_97 ?_
    refine aw_goto (tgt := 78) (by decide) dX8_digest_100 ?_
    refine aw_iload_n (x := 3) rfl dX8_digest_78 ?_
    refine aw_bipush (v := 12) (by decide) dX8_digest_79 ?_
    refine aw_icmp_ge (tgt := 103) (by decide) dX8_digest_81 (fun z => absurd z (by decide)) (fun _ => ?_)
    refine aw_aload_n (x := ad 14 0 0) rfl dX8_digest_84 ?_
    refine aw_aload_n (x := ad 14 0 0) rfl dX8_digest_85 ?_
    refine aw_iload_n (x := (nI i)) rfl dX8_digest_86 ?_
    refine aw_bipush (v := 8) (by decide) dX8_digest_87 ?_
    refine aw_iload_n (x := 3) rfl dX8_digest_89 ?_
    refine aw_iaddz (z := 11) (by decide) dX8_digest_90 ?_
    refine aw_rV (As := [.int (nI i), .int 11]) (S := [.ref (ad 14 0 0)]) (v := some (.int (o.1 8 (20 * i + 12)))) (o2 := (wd_j o 0 g14)) (ct_X8_of (l := i) (w := 11) (by omega) (by decide)) (mm_fit_of cbX8_of (by decide) (by decide)) wq969 cvX8_of wv14 rfl rfl rfl (Nat.le_of_ble_eq_true rfl) (by decide) (by decide) rfl dX8_digest_91 ?_
    refine aw_rV (As := [.int (o.1 8 (20 * i + 12))]) (S := []) (v := none) (o2 := (wd_j o 0 (mx g14 (o.1 8 (20 * i + 12))))) ct_mixg (mm_fit_of cbX8_mix (by decide) (by decide)) wq1180 cvX8_mix wv14 rfl rfl rfl (Nat.le_of_ble_eq_true rfl) (by decide) (by decide) rfl dX8_digest_94 ?_
    obtain ⟨g15, hg15⟩ : ∃ z, z = mx g14 (o.1 8 (20 * i + 12)) := ⟨_, rfl⟩
    rw [← hg15]
    refine aw_iinc (n := 1) (x := 3) (v := 4) (L2 := [some (.ref (ad 14 0 0)), some (.int (nI i)), some (.int 4)]) rfl (by decide) (by decide) rfl rfl dX8_digest_97 ?_
    refine aw_goto (tgt := 78) (by decide) dX8_digest_100 ?_
    refine aw_iload_n (x := 4) rfl dX8_digest_78 ?_
    refine aw_bipush (v := 12) (by decide) dX8_digest_79 ?_
    refine aw_icmp_ge (tgt := 103) (by decide) dX8_digest_81 (fun z => absurd z (by decide)) (fun _ => ?_)
    refine aw_aload_n (x := ad 14 0 0) rfl dX8_digest_84 ?_
    refine aw_aload_n (x := ad 14 0 0) rfl dX8_digest_85 ?_
    refine aw_iload_n (x := (nI i)) rfl dX8_digest_86 ?_
    refine aw_bipush (v := 8) (by decide) dX8_digest_87 ?_
    refine aw_iload_n (x := 4) rfl dX8_digest_89 ?_
    refine aw_iaddz (z := 12) (by decide) dX8_digest_90 ?_
    refine aw_rV (As := [.int (nI i), .int 12]) (S := [.ref (ad 14 0 0)]) (v := some (.int (o.1 8 (20 * i + 13)))) (o2 := (wd_j o 0 g15)) (ct_X8_of (l := i) (w := 12) (by omega) (by decide)) (mm_fit_of cbX8_of (by decide) (by decide)) wq969 cvX8_of wv14 rfl rfl rfl (Nat.le_of_ble_eq_true rfl) (by decide) (by decide) rfl dX8_digest_91 ?_
    refine aw_rV (As := [.int (o.1 8 (20 * i + 13))]) (S := []) (v := none) (o2 := (wd_j o 0 (mx g15 (o.1 8 (20 * i + 13))))) ct_mixg (mm_fit_of cbX8_mix (by decide) (by decide)) wq1180 cvX8_mix wv14 rfl rfl rfl (Nat.le_of_ble_eq_true rfl) (by decide) (by decide) rfl dX8_digest_94 ?_
    obtain ⟨g16, hg16⟩ : ∃ z, z = mx g15 (o.1 8 (20 * i + 13)) := ⟨_, rfl⟩
    rw [← hg16]
    refine aw_iinc (n := 1) (x := 4) (v := 5) (L2 := [some (.ref (ad 14 0 0)), some (.int (nI i)), some (.int 5)]) rfl (by decide) (by decide) rfl rfl dX8_digest_97 ?_
    refine aw_goto (tgt := 78) (by decide) dX8_digest_100 ?_
    refine aw_iload_n (x := 5) rfl dX8_digest_78 ?_
    refine aw_bipush (v := 12) (by decide) dX8_digest_79 ?_
    refine aw_icmp_ge (tgt := 103) (by decide) dX8_digest_81 (fun z => absurd z (by decide)) (fun _ => ?_)
    refine aw_aload_n (x := ad 14 0 0) rfl dX8_digest_84 ?_
    refine aw_aload_n (x := ad 14 0 0) rfl dX8_digest_85 ?_
    refine aw_iload_n (x := (nI i)) rfl dX8_digest_86 ?_
    refine aw_bipush (v := 8) (by decide) dX8_digest_87 ?_
    refine aw_iload_n (x := 5) rfl dX8_digest_89 ?_
    refine aw_iaddz (z := 13) (by decide) dX8_digest_90 ?_
    refine aw_rV (As := [.int (nI i), .int 13]) (S := [.ref (ad 14 0 0)]) (v := some (.int (o.1 8 (20 * i + 14)))) (o2 := (wd_j o 0 g16)) (ct_X8_of (l := i) (w := 13) (by omega) (by decide)) (mm_fit_of cbX8_of (by decide) (by decide)) wq969 cvX8_of wv14 rfl rfl rfl (Nat.le_of_ble_eq_true rfl) (by decide) (by decide) rfl dX8_digest_91 ?_
    refine aw_rV (As := [.int (o.1 8 (20 * i + 14))]) (S := []) (v := none) (o2 := (wd_j o 0 (mx g16 (o.1 8 (20 * i + 14))))) ct_mixg (mm_fit_of cbX8_mix (by decide) (by decide)) wq1180 cvX8_mix wv14 rfl rfl rfl (Nat.le_of_ble_eq_true rfl) (by decide) (by decide) rfl dX8_digest_94 ?_
    obtain ⟨g17, hg17⟩ : ∃ z, z = mx g16 (o.1 8 (20 * i + 14)) := ⟨_, rfl⟩
    rw [← hg17]
    refine aw_iinc (n := 1) (x := 5) (v := 6) (L2 := [some (.ref (ad 14 0 0)), some (.int (nI i)), some (.int 6)]) rfl (by decide) (by decide) rfl rfl dX8_digest_97 ?_
    refine aw_goto (tgt := 78) (by decide) dX8_digest_100 ?_
    refine aw_iload_n (x := 6) rfl dX8_digest_78 ?_
    refine aw_bipush (v := 12) (by decide) dX8_digest_79 ?_
    refine aw_icmp_ge (tgt := 103) (by decide) dX8_digest_81 (fun z => absurd z (by decide)) (fun _ => ?_)
    refine aw_aload_n (x := ad 14 0 0) rfl dX8_digest_84 ?_
    refine aw_aload_n (x := ad 14 0 0) rfl dX8_digest_85 ?_
    refine aw_iload_n (x := (nI i)) rfl dX8_digest_86 ?_
    refine aw_bipush (v := 8) (by decide) dX8_digest_87 ?_
    refine aw_iload_n (x := 6) rfl dX8_digest_89 ?_
    refine aw_iaddz (z := 14) (by decide) dX8_digest_90 ?_
    refine aw_rV (As := [.int (nI i), .int 14]) (S := [.ref (ad 14 0 0)]) (v := some (.int (o.1 8 (20 * i + 15)))) (o2 := (wd_j o 0 g17)) (ct_X8_of (l := i) (w := 14) (by omega) (by decide)) (mm_fit_of cbX8_of (by decide) (by decide)) wq969 cvX8_of wv14 rfl rfl rfl (Nat.le_of_ble_eq_true rfl) (by decide) (by decide) rfl dX8_digest_91 ?_
    refine aw_rV (As := [.int (o.1 8 (20 * i + 15))]) (S := []) (v := none) (o2 := (wd_j o 0 (mx g17 (o.1 8 (20 * i + 15))))) ct_mixg (mm_fit_of cbX8_mix (by decide) (by decide)) wq1180 cvX8_mix wv14 rfl rfl rfl (Nat.le_of_ble_eq_true rfl) (by decide) (by decide) rfl dX8_digest_94 ?_
    obtain ⟨g18, hg18⟩ : ∃ z, z = mx g17 (o.1 8 (20 * i + 15)) := ⟨_, rfl⟩
    rw [← hg18]
    refine aw_iinc (n := 1) (x := 6) (v := 7) (L2 := [some (.ref (ad 14 0 0)), some (.int (nI i)), some (.int 7)]) rfl (by decide) (by decide) rfl rfl dX8_digest_97 ?_
    refine aw_goto (tgt := 78) (by decide) dX8_digest_100 ?_
    refine aw_iload_n (x := 7) rfl dX8_digest_78 ?_
    refine aw_bipush (v := 12) (by decide) dX8_digest_79 ?_
    refine aw_icmp_ge (tgt := 103) (by decide) dX8_digest_81 (fun z => absurd z (by decide)) (fun _ => ?_)
    refine aw_aload_n (x := ad 14 0 0) rfl dX8_digest_84 ?_
    refine aw_aload_n (x := ad 14 0 0) rfl dX8_digest_85 ?_
    refine aw_iload_n (x := (nI i)) rfl dX8_digest_86 ?_
    refine aw_bipush (v := 8) (by decide) dX8_digest_87 ?_
    refine aw_iload_n (x := 7) rfl dX8_digest_89 ?_
    refine aw_iaddz (z := 15) (by decide) dX8_digest_90 ?_
    refine aw_rV (As := [.int (nI i), .int 15]) (S := [.ref (ad 14 0 0)]) (v := some (.int (o.1 8 (20 * i + 16)))) (o2 := (wd_j o 0 g18)) (ct_X8_of (l := i) (w := 15) (by omega) (by decide)) (mm_fit_of cbX8_of (by decide) (by decide)) wq969 cvX8_of wv14 rfl rfl rfl (Nat.le_of_ble_eq_true rfl) (by decide) (by decide) rfl dX8_digest_91 ?_
    refine aw_rV (As := [.int (o.1 8 (20 * i + 16))]) (S := []) (v := none) (o2 := (wd_j o 0 (mx g18 (o.1 8 (20 * i + 16))))) ct_mixg (mm_fit_of cbX8_mix (by decide) (by decide)) wq1180 cvX8_mix wv14 rfl rfl rfl (Nat.le_of_ble_eq_true rfl) (by decide) (by decide) rfl dX8_digest_94 ?_
    obtain ⟨g19, hg19⟩ : ∃ z, z = mx g18 (o.1 8 (20 * i + 16)) := ⟨_, rfl⟩
    rw [← hg19]
    refine aw_iinc (n := 1) (x := 7) (v := 8) (L2 := [some (.ref (ad 14 0 0)), some (.int (nI i)), some (.int 8)]) rfl (by decide) (by decide) rfl rfl dX8_digest_97 ?_
    refine aw_goto (tgt := 78) (by decide) dX8_digest_100 ?_
    refine aw_iload_n (x := 8) rfl dX8_digest_78 ?_
    refine aw_bipush (v := 12) (by decide) dX8_digest_79 ?_
    refine aw_icmp_ge (tgt := 103) (by decide) dX8_digest_81 (fun z => absurd z (by decide)) (fun _ => ?_)
    refine aw_aload_n (x := ad 14 0 0) rfl dX8_digest_84 ?_
    refine aw_aload_n (x := ad 14 0 0) rfl dX8_digest_85 ?_
    refine aw_iload_n (x := (nI i)) rfl dX8_digest_86 ?_
    refine aw_bipush (v := 8) (by decide) dX8_digest_87 ?_
    refine aw_iload_n (x := 8) rfl dX8_digest_89 ?_
    refine aw_iaddz (z := 16) (by decide) dX8_digest_90 ?_
    refine aw_rV (As := [.int (nI i), .int 16]) (S := [.ref (ad 14 0 0)]) (v := some (.int (o.1 8 (20 * i + 17)))) (o2 := (wd_j o 0 g19)) (ct_X8_of (l := i) (w := 16) (by omega) (by decide)) (mm_fit_of cbX8_of (by decide) (by decide)) wq969 cvX8_of wv14 rfl rfl rfl (Nat.le_of_ble_eq_true rfl) (by decide) (by decide) rfl dX8_digest_91 ?_
    refine aw_rV (As := [.int (o.1 8 (20 * i + 17))]) (S := []) (v := none) (o2 := (wd_j o 0 (mx g19 (o.1 8 (20 * i + 17))))) ct_mixg (mm_fit_of cbX8_mix (by decide) (by decide)) wq1180 cvX8_mix wv14 rfl rfl rfl (Nat.le_of_ble_eq_true rfl) (by decide) (by decide) rfl dX8_digest_94 ?_
    obtain ⟨g20, hg20⟩ : ∃ z, z = mx g19 (o.1 8 (20 * i + 17)) := ⟨_, rfl⟩
    rw [← hg20]
    refine aw_iinc (n := 1) (x := 8) (v := 9) (L2 := [some (.ref (ad 14 0 0)), some (.int (nI i)), some (.int 9)]) rfl (by decide) (by decide) rfl rfl dX8_digest_97 ?_
    refine aw_goto (tgt := 78) (by decide) dX8_digest_100 ?_
    refine aw_iload_n (x := 9) rfl dX8_digest_78 ?_
    refine aw_bipush (v := 12) (by decide) dX8_digest_79 ?_
    refine aw_icmp_ge (tgt := 103) (by decide) dX8_digest_81 (fun z => absurd z (by decide)) (fun _ => ?_)
    refine aw_aload_n (x := ad 14 0 0) rfl dX8_digest_84 ?_
    refine aw_aload_n (x := ad 14 0 0) rfl dX8_digest_85 ?_
    refine aw_iload_n (x := (nI i)) rfl dX8_digest_86 ?_
    refine aw_bipush (v := 8) (by decide) dX8_digest_87 ?_
    refine aw_iload_n (x := 9) rfl dX8_digest_89 ?_
    refine aw_iaddz (z := 17) (by decide) dX8_digest_90 ?_
    refine aw_rV (As := [.int (nI i), .int 17]) (S := [.ref (ad 14 0 0)]) (v := some (.int (o.1 8 (20 * i + 18)))) (o2 := (wd_j o 0 g20)) (ct_X8_of (l := i) (w := 17) (by omega) (by decide)) (mm_fit_of cbX8_of (by decide) (by decide)) wq969 cvX8_of wv14 rfl rfl rfl (Nat.le_of_ble_eq_true rfl) (by decide) (by decide) rfl dX8_digest_91 ?_
    refine aw_rV (As := [.int (o.1 8 (20 * i + 18))]) (S := []) (v := none) (o2 := (wd_j o 0 (mx g20 (o.1 8 (20 * i + 18))))) ct_mixg (mm_fit_of cbX8_mix (by decide) (by decide)) wq1180 cvX8_mix wv14 rfl rfl rfl (Nat.le_of_ble_eq_true rfl) (by decide) (by decide) rfl dX8_digest_94 ?_
    obtain ⟨g21, hg21⟩ : ∃ z, z = mx g20 (o.1 8 (20 * i + 18)) := ⟨_, rfl⟩
    rw [← hg21]
    refine aw_iinc (n := 1) (x := 9) (v := 10) (L2 := [some (.ref (ad 14 0 0)), some (.int (nI i)), some (.int 10)]) rfl (by decide) (by decide) rfl rfl dX8_digest_97 ?_
    refine aw_goto (tgt := 78) (by decide) dX8_digest_100 ?_
    refine aw_iload_n (x := 10) rfl dX8_digest_78 ?_
    refine aw_bipush (v := 12) (by decide) dX8_digest_79 ?_
    refine aw_icmp_ge (tgt := 103) (by decide) dX8_digest_81 (fun z => absurd z (by decide)) (fun _ => ?_)
    refine aw_aload_n (x := ad 14 0 0) rfl dX8_digest_84 ?_
    refine aw_aload_n (x := ad 14 0 0) rfl dX8_digest_85 ?_
    refine aw_iload_n (x := (nI i)) rfl dX8_digest_86 ?_
    refine aw_bipush (v := 8) (by decide) dX8_digest_87 ?_
    refine aw_iload_n (x := 10) rfl dX8_digest_89 ?_
    refine aw_iaddz (z := 18) (by decide) dX8_digest_90 ?_
    refine aw_rV (As := [.int (nI i), .int 18]) (S := [.ref (ad 14 0 0)]) (v := some (.int (o.1 8 (20 * i + 19)))) (o2 := (wd_j o 0 g21)) (ct_X8_of (l := i) (w := 18) (by omega) (by decide)) (mm_fit_of cbX8_of (by decide) (by decide)) wq969 cvX8_of wv14 rfl rfl rfl (Nat.le_of_ble_eq_true rfl) (by decide) (by decide) rfl dX8_digest_91 ?_
    refine aw_rV (As := [.int (o.1 8 (20 * i + 19))]) (S := []) (v := none) (o2 := (wd_j o 0 (mx g21 (o.1 8 (20 * i + 19))))) ct_mixg (mm_fit_of cbX8_mix (by decide) (by decide)) wq1180 cvX8_mix wv14 rfl rfl rfl (Nat.le_of_ble_eq_true rfl) (by decide) (by decide) rfl dX8_digest_94 ?_
    obtain ⟨g22, hg22⟩ : ∃ z, z = mx g21 (o.1 8 (20 * i + 19)) := ⟨_, rfl⟩
    rw [← hg22]
    refine aw_iinc (n := 1) (x := 10) (v := 11) (L2 := [some (.ref (ad 14 0 0)), some (.int (nI i)), some (.int 11)]) rfl (by decide) (by decide) rfl rfl dX8_digest_97 ?_
    refine aw_goto (tgt := 78) (by decide) dX8_digest_100 ?_
    refine aw_iload_n (x := 11) rfl dX8_digest_78 ?_
    refine aw_bipush (v := 12) (by decide) dX8_digest_79 ?_
    refine aw_icmp_ge (tgt := 103) (by decide) dX8_digest_81 (fun z => absurd z (by decide)) (fun _ => ?_)
    refine aw_aload_n (x := ad 14 0 0) rfl dX8_digest_84 ?_
    refine aw_aload_n (x := ad 14 0 0) rfl dX8_digest_85 ?_
    refine aw_iload_n (x := (nI i)) rfl dX8_digest_86 ?_
    refine aw_bipush (v := 8) (by decide) dX8_digest_87 ?_
    refine aw_iload_n (x := 11) rfl dX8_digest_89 ?_
    refine aw_iaddz (z := 19) (by decide) dX8_digest_90 ?_
    refine aw_rV (As := [.int (nI i), .int 19]) (S := [.ref (ad 14 0 0)]) (v := some (.int (o.1 8 (20 * i + 20)))) (o2 := (wd_j o 0 g22)) (ct_X8_of (l := i) (w := 19) (by omega) (by decide)) (mm_fit_of cbX8_of (by decide) (by decide)) wq969 cvX8_of wv14 rfl rfl rfl (Nat.le_of_ble_eq_true rfl) (by decide) (by decide) rfl dX8_digest_91 ?_
    refine aw_rV (As := [.int (o.1 8 (20 * i + 20))]) (S := []) (v := none) (o2 := (wd_j o 0 (mx g22 (o.1 8 (20 * i + 20))))) ct_mixg (mm_fit_of cbX8_mix (by decide) (by decide)) wq1180 cvX8_mix wv14 rfl rfl rfl (Nat.le_of_ble_eq_true rfl) (by decide) (by decide) rfl dX8_digest_94 ?_
    obtain ⟨g23, hg23⟩ : ∃ z, z = mx g22 (o.1 8 (20 * i + 20)) := ⟨_, rfl⟩
    rw [← hg23]
    refine aw_iinc (n := 1) (x := 11) (v := 12) (L2 := [some (.ref (ad 14 0 0)), some (.int (nI i)), some (.int 12)]) rfl (by decide) (by decide) rfl rfl dX8_digest_97 ?_
    refine aw_goto (tgt := 78) (by decide) dX8_digest_100 ?_
    refine aw_iload_n (x := 12) rfl dX8_digest_78 ?_
    refine aw_bipush (v := 12) (by decide) dX8_digest_79 ?_
    refine aw_icmp_ge (tgt := 103) (by decide) dX8_digest_81 (fun _ => ?_) (fun z => absurd z (by decide))
    refine aw_iinc (n := 1) (x := (nI i)) (v := nI (i + 1)) (L2 := [some (.ref (ad 14 0 0)), some (.int (nI (i + 1))), some (.int 12)]) rfl (nI_1 i) (by decide) rfl rfl dX8_digest_103 ?_
    refine aw_goto (tgt := 24) (by decide) dX8_digest_106 ?_
    refine AW.locs (ih (i + 1) g23 (by omega) ?_) (lsub_keep (lsub_keep (lsub_none lsub_nil)))
    subst hg23; subst hg22; subst hg21; subst hg20; subst hg19; subst hg18; subst hg17; subst hg16; subst hg15; subst hg14; subst hg13; subst hg12; subst hg11; subst hg10; subst hg9; subst hg8; subst hg7; subst hg6; subst hg5; subst hg4; subst hg3; subst hg2; subst hg1; exact K
theorem lp_ds {ad : Nat → Nat → Nat → Nat} {o : wd_S} {F : (Option Value ⊕ String) → wd_S → Prop} {n m : Nat} (G : cg (o.1 8) n m) : ∀ (k i : Nat) (h : Int64), i + k = m → AW ad MX8_digest 163 [some (.ref (ad 14 0 0)), none, none] [] (wd_j o 0 (rf_dgs (o.1 8) k i h)) 0 0 F → AW ad MX8_digest 122 [some (.ref (ad 14 0 0)), some (.int (nI i)), none] [] (wd_j o 0 h) 0 0 F := by
  have g2 := G.2.1
  have g4 := G.2.2.2.1
  intro k
  induction k with
  | zero =>
    intro i h hk K
    refine aw_iload_n (x := (nI i)) rfl dX8_digest_122 ?_
    refine aw_aload_n (x := ad 14 0 0) rfl dX8_digest_123 ?_
    refine aw_getr (q := (15, 0, 0)) wv14 rfl flX8_7 rfl rfl dX8_digest_124 ?_
    refine aw_bipush (v := 101) (by decide) dX8_digest_127 ?_
    refine aw_ild (x := 101) (q := (8, 101)) (y := nI m) (by decide) (wv15 (by decide)) rfl G.2.2.1 (Nat.le_of_ble_eq_true rfl) rfl dX8_digest_129 ?_
    refine aw_icmp_ge (tgt := 163) (by decide) dX8_digest_130 (fun _ => ?_) (fun z => absurd (nI_le (by omega) (by omega)) z)
    exact AW.locs K (lsub_keep (lsub_none (lsub_keep lsub_nil)))
  | succ k ih =>
    intro i h hk K
    obtain ⟨l, hl, hh⟩ := G.2.2.2.2.1 i (by omega)
    have hl5 : l < 5 := by omega
    have hme : hm (o.1 8) i = l := hm_of hh hl5
    refine aw_iload_n (x := (nI i)) rfl dX8_digest_122 ?_
    refine aw_aload_n (x := ad 14 0 0) rfl dX8_digest_123 ?_
    refine aw_getr (q := (15, 0, 0)) wv14 rfl flX8_7 rfl rfl dX8_digest_124 ?_
    refine aw_bipush (v := 101) (by decide) dX8_digest_127 ?_
    refine aw_ild (x := 101) (q := (8, 101)) (y := nI m) (by decide) (wv15 (by decide)) rfl G.2.2.1 (Nat.le_of_ble_eq_true rfl) rfl dX8_digest_129 ?_
    refine aw_icmp_ge (tgt := 163) (by decide) dX8_digest_130 (fun z => absurd z (nI_ge (by omega) (by omega))) (fun _ => ?_)
    refine aw_iconst (v := 0) (by decide) dX8_digest_133 ?_
    refine aw_istore_n (L2 := [some (.ref (ad 14 0 0)), some (.int (nI i)), some (.int 0)]) (by decide) rfl rfl dX8_digest_134 ?_
    refine aw_iload_n (x := 0) rfl dX8_digest_135 ?_
    refine aw_bipush (v := 8) (by decide) dX8_digest_136 ?_
    refine aw_icmp_ge (tgt := 157) (by decide) dX8_digest_138 (fun z => absurd z (by decide)) (fun _ => ?_)
    refine aw_aload_n (x := ad 14 0 0) rfl dX8_digest_141 ?_
    refine aw_aload_n (x := ad 14 0 0) rfl dX8_digest_142 ?_
    refine aw_iload_n (x := (nI i)) rfl dX8_digest_143 ?_
    refine aw_iload_n (x := 0) rfl dX8_digest_144 ?_
    refine aw_rV (As := [.int (nI i), .int 0]) (S := [.ref (ad 14 0 0)]) (v := some (.int (mf_told (o.1 8) l i 0))) (o2 := (wd_j o 0 h)) (ct_X8_told_0 (o := wd_j o 0 h) G hl5 (by omega) hh) (mm_fit_of cbX8_told (by decide) (by decide)) wq985 cvX8_told wv14 rfl rfl rfl (Nat.le_of_ble_eq_true rfl) (by decide) (by decide) rfl dX8_digest_145 ?_
    refine aw_rV (As := [.int (mf_told (o.1 8) l i 0)]) (S := []) (v := none) (o2 := (wd_j o 0 (mx h (mf_told (o.1 8) l i 0)))) ct_mixg (mm_fit_of cbX8_mix (by decide) (by decide)) wq1180 cvX8_mix wv14 rfl rfl rfl (Nat.le_of_ble_eq_true rfl) (by decide) (by decide) rfl dX8_digest_148 ?_
    obtain ⟨g1, hg1⟩ : ∃ z, z = mx h (mf_told (o.1 8) l i 0) := ⟨_, rfl⟩
    rw [← hg1]
    refine aw_iinc (n := 1) (x := 0) (v := 1) (L2 := [some (.ref (ad 14 0 0)), some (.int (nI i)), some (.int 1)]) rfl (by decide) (by decide) rfl rfl dX8_digest_151 ?_
    refine aw_goto (tgt := 135) (by decide) dX8_digest_154 ?_
    refine aw_iload_n (x := 1) rfl dX8_digest_135 ?_
    refine aw_bipush (v := 8) (by decide) dX8_digest_136 ?_
    refine aw_icmp_ge (tgt := 157) (by decide) dX8_digest_138 (fun z => absurd z (by decide)) (fun _ => ?_)
    refine aw_aload_n (x := ad 14 0 0) rfl dX8_digest_141 ?_
    refine aw_aload_n (x := ad 14 0 0) rfl dX8_digest_142 ?_
    refine aw_iload_n (x := (nI i)) rfl dX8_digest_143 ?_
    refine aw_iload_n (x := 1) rfl dX8_digest_144 ?_
    refine aw_rV (As := [.int (nI i), .int 1]) (S := [.ref (ad 14 0 0)]) (v := some (.int (mf_told (o.1 8) l i 1))) (o2 := (wd_j o 0 g1)) (ct_X8_told_1 (o := wd_j o 0 g1) G hl5 (by omega) hh) (mm_fit_of cbX8_told (by decide) (by decide)) wq985 cvX8_told wv14 rfl rfl rfl (Nat.le_of_ble_eq_true rfl) (by decide) (by decide) rfl dX8_digest_145 ?_
    refine aw_rV (As := [.int (mf_told (o.1 8) l i 1)]) (S := []) (v := none) (o2 := (wd_j o 0 (mx g1 (mf_told (o.1 8) l i 1)))) ct_mixg (mm_fit_of cbX8_mix (by decide) (by decide)) wq1180 cvX8_mix wv14 rfl rfl rfl (Nat.le_of_ble_eq_true rfl) (by decide) (by decide) rfl dX8_digest_148 ?_
    obtain ⟨g2, hg2⟩ : ∃ z, z = mx g1 (mf_told (o.1 8) l i 1) := ⟨_, rfl⟩
    rw [← hg2]
    refine aw_iinc (n := 1) (x := 1) (v := 2) (L2 := [some (.ref (ad 14 0 0)), some (.int (nI i)), some (.int 2)]) rfl (by decide) (by decide) rfl rfl dX8_digest_151 ?_
    refine aw_goto (tgt := 135) (by decide) dX8_digest_154 ?_
    refine aw_iload_n (x := 2) rfl dX8_digest_135 ?_
    refine aw_bipush (v := 8) (by decide) dX8_digest_136 ?_
    refine aw_icmp_ge (tgt := 157) (by decide) dX8_digest_138 (fun z => absurd z (by decide)) (fun _ => ?_)
    refine aw_aload_n (x := ad 14 0 0) rfl dX8_digest_141 ?_
    refine aw_aload_n (x := ad 14 0 0) rfl dX8_digest_142 ?_
    refine aw_iload_n (x := (nI i)) rfl dX8_digest_143 ?_
    refine aw_iload_n (x := 2) rfl dX8_digest_144 ?_
    refine aw_rV (As := [.int (nI i), .int 2]) (S := [.ref (ad 14 0 0)]) (v := some (.int (mf_told (o.1 8) l i 2))) (o2 := (wd_j o 0 g2)) (ct_X8_told_2 (o := wd_j o 0 g2) G hl5 (by omega) hh) (mm_fit_of cbX8_told (by decide) (by decide)) wq985 cvX8_told wv14 rfl rfl rfl (Nat.le_of_ble_eq_true rfl) (by decide) (by decide) rfl dX8_digest_145 ?_
    refine aw_rV (As := [.int (mf_told (o.1 8) l i 2)]) (S := []) (v := none) (o2 := (wd_j o 0 (mx g2 (mf_told (o.1 8) l i 2)))) ct_mixg (mm_fit_of cbX8_mix (by decide) (by decide)) wq1180 cvX8_mix wv14 rfl rfl rfl (Nat.le_of_ble_eq_true rfl) (by decide) (by decide) rfl dX8_digest_148 ?_
    obtain ⟨g3, hg3⟩ : ∃ z, z = mx g2 (mf_told (o.1 8) l i 2) := ⟨_, rfl⟩
    rw [← hg3]
    refine aw_iinc (n := 1) (x := 2) (v := 3) (L2 := [some (.ref (ad 14 0 0)), some (.int (nI i)), some (.int 3)]) rfl (by decide) (by decide) rfl rfl dX8_digest_151 ?_
    refine aw_goto (tgt := 135) (by decide) dX8_digest_154 ?_
    refine aw_iload_n (x := 3) rfl dX8_digest_135 ?_
    refine aw_bipush (v := 8) (by decide) dX8_digest_136 ?_
    refine aw_icmp_ge (tgt := 157) (by decide) dX8_digest_138 (fun z => absurd z (by decide)) (fun _ => ?_)
    refine aw_aload_n (x := ad 14 0 0) rfl dX8_digest_141 ?_
    refine aw_aload_n (x := ad 14 0 0) rfl dX8_digest_142 ?_
    refine aw_iload_n (x := (nI i)) rfl dX8_digest_143 ?_
    refine aw_iload_n (x := 3) rfl dX8_digest_144 ?_
    refine aw_rV (As := [.int (nI i), .int 3]) (S := [.ref (ad 14 0 0)]) (v := some (.int (mf_told (o.1 8) l i 3))) (o2 := (wd_j o 0 g3)) (ct_X8_told_3 (o := wd_j o 0 g3) G hl5 (by omega) hh) (mm_fit_of cbX8_told (by decide) (by decide)) wq985 cvX8_told wv14 rfl rfl rfl (Nat.le_of_ble_eq_true rfl) (by decide) (by decide) rfl dX8_digest_145 ?_
    refine aw_rV (As := [.int (mf_told (o.1 8) l i 3)]) (S := []) (v := none) (o2 := (wd_j o 0 (mx g3 (mf_told (o.1 8) l i 3)))) ct_mixg (mm_fit_of cbX8_mix (by decide) (by decide)) wq1180 cvX8_mix wv14 rfl rfl rfl (Nat.le_of_ble_eq_true rfl) (by decide) (by decide) rfl dX8_digest_148 ?_
    obtain ⟨g4, hg4⟩ : ∃ z, z = mx g3 (mf_told (o.1 8) l i 3) := ⟨_, rfl⟩
    rw [← hg4]
    refine aw_iinc (n := 1) (x := 3) (v := 4) (L2 := [some (.ref (ad 14 0 0)), some (.int (nI i)), some (.int 4)]) rfl (by decide) (by decide) rfl rfl dX8_digest_151 ?_
    refine aw_goto (tgt := 135) (by decide) dX8_digest_154 ?_
    refine aw_iload_n (x := 4) rfl dX8_digest_135 ?_
    refine aw_bipush (v := 8) (by decide) dX8_digest_136 ?_
    refine aw_icmp_ge (tgt := 157) (by decide) dX8_digest_138 (fun z => absurd z (by decide)) (fun _ => ?_)
    refine aw_aload_n (x := ad 14 0 0) rfl dX8_digest_141 ?_
    refine aw_aload_n (x := ad 14 0 0) rfl dX8_digest_142 ?_
    refine aw_iload_n (x := (nI i)) rfl dX8_digest_143 ?_
    refine aw_iload_n (x := 4) rfl dX8_digest_144 ?_
    refine aw_rV (As := [.int (nI i), .int 4]) (S := [.ref (ad 14 0 0)]) (v := some (.int (mf_told (o.1 8) l i 4))) (o2 := (wd_j o 0 g4)) (ct_X8_told_4 (o := wd_j o 0 g4) G hl5 (by omega) hh) (mm_fit_of cbX8_told (by decide) (by decide)) wq985 cvX8_told wv14 rfl rfl rfl (Nat.le_of_ble_eq_true rfl) (by decide) (by decide) rfl dX8_digest_145 ?_
    refine aw_rV (As := [.int (mf_told (o.1 8) l i 4)]) (S := []) (v := none) (o2 := (wd_j o 0 (mx g4 (mf_told (o.1 8) l i 4)))) ct_mixg (mm_fit_of cbX8_mix (by decide) (by decide)) wq1180 cvX8_mix wv14 rfl rfl rfl (Nat.le_of_ble_eq_true rfl) (by decide) (by decide) rfl dX8_digest_148 ?_
    obtain ⟨g5, hg5⟩ : ∃ z, z = mx g4 (mf_told (o.1 8) l i 4) := ⟨_, rfl⟩
    rw [← hg5]
    refine aw_iinc (n := 1) (x := 4) (v := 5) (L2 := [some (.ref (ad 14 0 0)), some (.int (nI i)), some (.int 5)]) rfl (by decide) (by decide) rfl rfl dX8_digest_151 ?_
    refine aw_goto (tgt := 135) (by decide) dX8_digest_154 ?_
    refine aw_iload_n (x := 5) rfl dX8_digest_135 ?_
    refine aw_bipush (v := 8) (by decide) dX8_digest_136 ?_
    refine aw_icmp_ge (tgt := 157) (by decide) dX8_digest_138 (fun z => absurd z (by decide)) (fun _ => ?_)
    refine aw_aload_n (x := ad 14 0 0) rfl dX8_digest_141 ?_
    refine aw_aload_n (x := ad 14 0 0) rfl dX8_digest_142 ?_
    refine aw_iload_n (x := (nI i)) rfl dX8_digest_143 ?_
    refine aw_iload_n (x := 5) rfl dX8_digest_144 ?_
    refine aw_rV (As := [.int (nI i), .int 5]) (S := [.ref (ad 14 0 0)]) (v := some (.int (mf_told (o.1 8) l i 5))) (o2 := (wd_j o 0 g5)) (ct_X8_told_5 (o := wd_j o 0 g5) G hl5 (by omega) hh) (mm_fit_of cbX8_told (by decide) (by decide)) wq985 cvX8_told wv14 rfl rfl rfl (Nat.le_of_ble_eq_true rfl) (by decide) (by decide) rfl dX8_digest_145 ?_
    refine aw_rV (As := [.int (mf_told (o.1 8) l i 5)]) (S := []) (v := none) (o2 := (wd_j o 0 (mx g5 (mf_told (o.1 8) l i 5)))) ct_mixg (mm_fit_of cbX8_mix (by decide) (by decide)) wq1180 cvX8_mix wv14 rfl rfl rfl (Nat.le_of_ble_eq_true rfl) (by decide) (by decide) rfl dX8_digest_148 ?_
    obtain ⟨g6, hg6⟩ : ∃ z, z = mx g5 (mf_told (o.1 8) l i 5) := ⟨_, rfl⟩
    rw [← hg6]
    refine aw_iinc (n := 1) (x := 5) (v := 6) (L2 := [some (.ref (ad 14 0 0)), some (.int (nI i)), some (.int 6)]) rfl (by decide) (by decide) rfl rfl dX8_digest_151 ?_
    refine aw_goto (tgt := 135) (by decide) dX8_digest_154 ?_
    refine aw_iload_n (x := 6) rfl dX8_digest_135 ?_
    refine aw_bipush (v := 8) (by decide) dX8_digest_136 ?_
    refine aw_icmp_ge (tgt := 157) (by decide) dX8_digest_138 (fun z => absurd z (by decide)) (fun _ => ?_)
    refine aw_aload_n (x := ad 14 0 0) rfl dX8_digest_141 ?_
    refine aw_aload_n (x := ad 14 0 0) rfl dX8_digest_142 ?_
    refine aw_iload_n (x := (nI i)) rfl dX8_digest_143 ?_
    refine aw_iload_n (x := 6) rfl dX8_digest_144 ?_
    refine aw_rV (As := [.int (nI i), .int 6]) (S := [.ref (ad 14 0 0)]) (v := some (.int (mf_told (o.1 8) l i 6))) (o2 := (wd_j o 0 g6)) (ct_X8_told_6 (o := wd_j o 0 g6) G hl5 (by omega) hh) (mm_fit_of cbX8_told (by decide) (by decide)) wq985 cvX8_told wv14 rfl rfl rfl (Nat.le_of_ble_eq_true rfl) (by decide) (by decide) rfl dX8_digest_145 ?_
    refine aw_rV (As := [.int (mf_told (o.1 8) l i 6)]) (S := []) (v := none) (o2 := (wd_j o 0 (mx g6 (mf_told (o.1 8) l i 6)))) ct_mixg (mm_fit_of cbX8_mix (by decide) (by decide)) wq1180 cvX8_mix wv14 rfl rfl rfl (Nat.le_of_ble_eq_true rfl) (by decide) (by decide) rfl dX8_digest_148 ?_
    obtain ⟨g7, hg7⟩ : ∃ z, z = mx g6 (mf_told (o.1 8) l i 6) := ⟨_, rfl⟩
    rw [← hg7]
    refine aw_iinc (n := 1) (x := 6) (v := 7) (L2 := [some (.ref (ad 14 0 0)), some (.int (nI i)), some (.int 7)]) rfl (by decide) (by decide) rfl rfl dX8_digest_151 ?_
    refine aw_goto (tgt := 135) (by decide) dX8_digest_154 ?_
    refine aw_iload_n (x := 7) rfl dX8_digest_135 ?_
    refine aw_bipush (v := 8) (by decide) dX8_digest_136 ?_
    refine aw_icmp_ge (tgt := 157) (by decide) dX8_digest_138 (fun z => absurd z (by decide)) (fun _ => ?_)
    refine aw_aload_n (x := ad 14 0 0) rfl dX8_digest_141 ?_
    refine aw_aload_n (x := ad 14 0 0) rfl dX8_digest_142 ?_
    refine aw_iload_n (x := (nI i)) rfl dX8_digest_143 ?_
    refine aw_iload_n (x := 7) rfl dX8_digest_144 ?_
    refine aw_rV (As := [.int (nI i), .int 7]) (S := [.ref (ad 14 0 0)]) (v := some (.int (mf_told (o.1 8) l i 7))) (o2 := (wd_j o 0 g7)) (ct_X8_told_7 (o := wd_j o 0 g7) G hl5 (by omega) hh) (mm_fit_of cbX8_told (by decide) (by decide)) wq985 cvX8_told wv14 rfl rfl rfl (Nat.le_of_ble_eq_true rfl) (by decide) (by decide) rfl dX8_digest_145 ?_
    refine aw_rV (As := [.int (mf_told (o.1 8) l i 7)]) (S := []) (v := none) (o2 := (wd_j o 0 (mx g7 (mf_told (o.1 8) l i 7)))) ct_mixg (mm_fit_of cbX8_mix (by decide) (by decide)) wq1180 cvX8_mix wv14 rfl rfl rfl (Nat.le_of_ble_eq_true rfl) (by decide) (by decide) rfl dX8_digest_148 ?_
    obtain ⟨g8, hg8⟩ : ∃ z, z = mx g7 (mf_told (o.1 8) l i 7) := ⟨_, rfl⟩
    rw [← hg8]
    refine aw_iinc (n := 1) (x := 7) (v := 8) (L2 := [some (.ref (ad 14 0 0)), some (.int (nI i)), some (.int 8)]) rfl (by decide) (by decide) rfl rfl dX8_digest_151 ?_
    refine aw_goto (tgt := 135) (by decide) dX8_digest_154 ?_
    refine aw_iload_n (x := 8) rfl dX8_digest_135 ?_
    refine aw_bipush (v := 8) (by decide) dX8_digest_136 ?_
    refine aw_icmp_ge (tgt := 157) (by decide) dX8_digest_138 (fun _ => ?_) (fun z => absurd z (by decide))
    refine aw_iinc (n := 1) (x := (nI i)) (v := nI (i + 1)) (L2 := [some (.ref (ad 14 0 0)), some (.int (nI (i + 1))), some (.int 8)]) rfl (nI_1 i) (by decide) rfl rfl dX8_digest_157 ?_
    refine aw_goto (tgt := 122) (by decide) dX8_digest_160 ?_
    refine AW.locs (ih (i + 1) g8 (by omega) ?_) (lsub_keep (lsub_keep (lsub_none lsub_nil)))
    subst hg8; subst hg7; subst hg6; subst hg5; subst hg4; subst hg3; subst hg2; subst hg1; subst hme; exact K
theorem tl_dg {ad : Nat → Nat → Nat → Nat} {o : wd_S} {n m c : Nat} (G : cg (o.1 8) n m) (hk : o.1 12 0 = nI c) {h : Int64} : AW ad MX8_digest 163 [some (.ref (ad 14 0 0)), none, none] [] (wd_j o 0 h) 0 0 (RT (some (.long (rf_dg1 (o.1 8) c h))) (wd_j o 0 (rf_dg1 (o.1 8) c h))) := by
  refine aw_aload_n (x := ad 14 0 0) rfl dX8_digest_163 ?_
  refine aw_aload_n (x := ad 14 0 0) rfl dX8_digest_164 ?_
  refine aw_getr (q := (15, 0, 0)) wv14 rfl flX8_7 rfl rfl dX8_digest_165 ?_
  refine aw_sipush (v := 230) (by decide) dX8_digest_168 ?_
  refine aw_ild (x := 230) (q := (8, 230)) (y := o.1 8 230) (by decide) (wv15 (by decide)) rfl rfl (Nat.le_of_ble_eq_true rfl) rfl dX8_digest_171 ?_
  refine aw_rV (As := [.int (o.1 8 230)]) (S := []) (v := none) (o2 := (wd_j o 0 (mx h (o.1 8 230)))) ct_mixg (mm_fit_of cbX8_mix (by decide) (by decide)) wq1180 cvX8_mix wv14 rfl rfl rfl (Nat.le_of_ble_eq_true rfl) (by decide) (by decide) rfl dX8_digest_172 ?_
  obtain ⟨g1, hg1⟩ : ∃ z, z = mx h (o.1 8 230) := ⟨_, rfl⟩
  rw [← hg1]
  refine aw_iconst (v := 0) (by decide) dX8_digest_175 ?_
  refine aw_istore_n (L2 := [some (.ref (ad 14 0 0)), some (.int 0), none]) (by decide) rfl rfl dX8_digest_176 ?_
  refine aw_iload_n (x := 0) rfl dX8_digest_177 ?_
  refine aw_bipush (v := 6) (by decide) dX8_digest_178 ?_
  refine aw_icmp_ge (tgt := 203) (by decide) dX8_digest_180 (fun z => absurd z (by decide)) (fun _ => ?_)
  refine aw_aload_n (x := ad 14 0 0) rfl dX8_digest_183 ?_
  refine aw_aload_n (x := ad 14 0 0) rfl dX8_digest_184 ?_
  refine aw_getr (q := (15, 0, 0)) wv14 rfl flX8_7 rfl rfl dX8_digest_185 ?_
  refine aw_sipush (v := 231) (by decide) dX8_digest_188 ?_
  refine aw_iload_n (x := 0) rfl dX8_digest_191 ?_
  refine aw_iaddz (z := 231) (by decide) dX8_digest_192 ?_
  refine aw_ild (x := 231) (q := (8, 231)) (y := o.1 8 231) (by decide) (wv15 (by decide)) rfl rfl (Nat.le_of_ble_eq_true rfl) rfl dX8_digest_193 ?_
  refine aw_rV (As := [.int (o.1 8 231)]) (S := []) (v := none) (o2 := (wd_j o 0 (mx g1 (o.1 8 231)))) ct_mixg (mm_fit_of cbX8_mix (by decide) (by decide)) wq1180 cvX8_mix wv14 rfl rfl rfl (Nat.le_of_ble_eq_true rfl) (by decide) (by decide) rfl dX8_digest_194 ?_
  obtain ⟨g2, hg2⟩ : ∃ z, z = mx g1 (o.1 8 231) := ⟨_, rfl⟩
  rw [← hg2]
  refine aw_iinc (n := 1) (x := 0) (v := 1) (L2 := [some (.ref (ad 14 0 0)), some (.int 1), none]) rfl (by decide) (by decide) rfl rfl dX8_digest_197 ?_
  refine aw_goto (tgt := 177) (by decide) dX8_digest_200 ?_
  refine aw_iload_n (x := 1) rfl dX8_digest_177 ?_
  refine aw_bipush (v := 6) (by decide) dX8_digest_178 ?_
  refine aw_icmp_ge (tgt := 203) (by decide) dX8_digest_180 (fun z => absurd z (by decide)) (fun _ => ?_)
  refine aw_aload_n (x := ad 14 0 0) rfl dX8_digest_183 ?_
  refine aw_aload_n (x := ad 14 0 0) rfl dX8_digest_184 ?_
  refine aw_getr (q := (15, 0, 0)) wv14 rfl flX8_7 rfl rfl dX8_digest_185 ?_
  refine aw_sipush (v := 231) (by decide) dX8_digest_188 ?_
  refine aw_iload_n (x := 1) rfl dX8_digest_191 ?_
  refine aw_iaddz (z := 232) (by decide) dX8_digest_192 ?_
  refine aw_ild (x := 232) (q := (8, 232)) (y := o.1 8 232) (by decide) (wv15 (by decide)) rfl rfl (Nat.le_of_ble_eq_true rfl) rfl dX8_digest_193 ?_
  refine aw_rV (As := [.int (o.1 8 232)]) (S := []) (v := none) (o2 := (wd_j o 0 (mx g2 (o.1 8 232)))) ct_mixg (mm_fit_of cbX8_mix (by decide) (by decide)) wq1180 cvX8_mix wv14 rfl rfl rfl (Nat.le_of_ble_eq_true rfl) (by decide) (by decide) rfl dX8_digest_194 ?_
  obtain ⟨g3, hg3⟩ : ∃ z, z = mx g2 (o.1 8 232) := ⟨_, rfl⟩
  rw [← hg3]
  refine aw_iinc (n := 1) (x := 1) (v := 2) (L2 := [some (.ref (ad 14 0 0)), some (.int 2), none]) rfl (by decide) (by decide) rfl rfl dX8_digest_197 ?_
  refine aw_goto (tgt := 177) (by decide) dX8_digest_200 ?_
  refine aw_iload_n (x := 2) rfl dX8_digest_177 ?_
  refine aw_bipush (v := 6) (by decide) dX8_digest_178 ?_
  refine aw_icmp_ge (tgt := 203) (by decide) dX8_digest_180 (fun z => absurd z (by decide)) (fun _ => ?_)
  refine aw_aload_n (x := ad 14 0 0) rfl dX8_digest_183 ?_
  refine aw_aload_n (x := ad 14 0 0) rfl dX8_digest_184 ?_
  refine aw_getr (q := (15, 0, 0)) wv14 rfl flX8_7 rfl rfl dX8_digest_185 ?_
  refine aw_sipush (v := 231) (by decide) dX8_digest_188 ?_
  refine aw_iload_n (x := 2) rfl dX8_digest_191 ?_
  refine aw_iaddz (z := 233) (by decide) dX8_digest_192 ?_
  refine aw_ild (x := 233) (q := (8, 233)) (y := o.1 8 233) (by decide) (wv15 (by decide)) rfl rfl (Nat.le_of_ble_eq_true rfl) rfl dX8_digest_193 ?_
  refine aw_rV (As := [.int (o.1 8 233)]) (S := []) (v := none) (o2 := (wd_j o 0 (mx g3 (o.1 8 233)))) ct_mixg (mm_fit_of cbX8_mix (by decide) (by decide)) wq1180 cvX8_mix wv14 rfl rfl rfl (Nat.le_of_ble_eq_true rfl) (by decide) (by decide) rfl dX8_digest_194 ?_
  obtain ⟨g4, hg4⟩ : ∃ z, z = mx g3 (o.1 8 233) := ⟨_, rfl⟩
  rw [← hg4]
  refine aw_iinc (n := 1) (x := 2) (v := 3) (L2 := [some (.ref (ad 14 0 0)), some (.int 3), none]) rfl (by decide) (by decide) rfl rfl dX8_digest_197 ?_
  refine aw_goto (tgt := 177) (by decide) dX8_digest_200 ?_
  refine aw_iload_n (x := 3) rfl dX8_digest_177 ?_
  refine aw_bipush (v := 6) (by decide) dX8_digest_178 ?_
  refine aw_icmp_ge (tgt := 203) (by decide) dX8_digest_180 (fun z => absurd z (by decide)) (fun _ => ?_)
  refine aw_aload_n (x := ad 14 0 0) rfl dX8_digest_183 ?_
  refine aw_aload_n (x := ad 14 0 0) rfl dX8_digest_184 ?_
  refine aw_getr (q := (15, 0, 0)) wv14 rfl flX8_7 rfl rfl dX8_digest_185 ?_
  refine aw_sipush (v := 231) (by decide) dX8_digest_188 ?_
  refine aw_iload_n (x := 3) rfl dX8_digest_191 ?_
  refine aw_iaddz (z := 234) (by decide) dX8_digest_192 ?_
  refine aw_ild (x := 234) (q := (8, 234)) (y := o.1 8 234) (by decide) (wv15 (by decide)) rfl rfl (Nat.le_of_ble_eq_true rfl) rfl dX8_digest_193 ?_
  refine aw_rV (As := [.int (o.1 8 234)]) (S := []) (v := none) (o2 := (wd_j o 0 (mx g4 (o.1 8 234)))) ct_mixg (mm_fit_of cbX8_mix (by decide) (by decide)) wq1180 cvX8_mix wv14 rfl rfl rfl (Nat.le_of_ble_eq_true rfl) (by decide) (by decide) rfl dX8_digest_194 ?_
  obtain ⟨g5, hg5⟩ : ∃ z, z = mx g4 (o.1 8 234) := ⟨_, rfl⟩
  rw [← hg5]
  refine aw_iinc (n := 1) (x := 3) (v := 4) (L2 := [some (.ref (ad 14 0 0)), some (.int 4), none]) rfl (by decide) (by decide) rfl rfl dX8_digest_197 ?_
  refine aw_goto (tgt := 177) (by decide) dX8_digest_200 ?_
  refine aw_iload_n (x := 4) rfl dX8_digest_177 ?_
  refine aw_bipush (v := 6) (by decide) dX8_digest_178 ?_
  refine aw_icmp_ge (tgt := 203) (by decide) dX8_digest_180 (fun z => absurd z (by decide)) (fun _ => ?_)
  refine aw_aload_n (x := ad 14 0 0) rfl dX8_digest_183 ?_
  refine aw_aload_n (x := ad 14 0 0) rfl dX8_digest_184 ?_
  refine aw_getr (q := (15, 0, 0)) wv14 rfl flX8_7 rfl rfl dX8_digest_185 ?_
  refine aw_sipush (v := 231) (by decide) dX8_digest_188 ?_
  refine aw_iload_n (x := 4) rfl dX8_digest_191 ?_
  refine aw_iaddz (z := 235) (by decide) dX8_digest_192 ?_
  refine aw_ild (x := 235) (q := (8, 235)) (y := o.1 8 235) (by decide) (wv15 (by decide)) rfl rfl (Nat.le_of_ble_eq_true rfl) rfl dX8_digest_193 ?_
  refine aw_rV (As := [.int (o.1 8 235)]) (S := []) (v := none) (o2 := (wd_j o 0 (mx g5 (o.1 8 235)))) ct_mixg (mm_fit_of cbX8_mix (by decide) (by decide)) wq1180 cvX8_mix wv14 rfl rfl rfl (Nat.le_of_ble_eq_true rfl) (by decide) (by decide) rfl dX8_digest_194 ?_
  obtain ⟨g6, hg6⟩ : ∃ z, z = mx g5 (o.1 8 235) := ⟨_, rfl⟩
  rw [← hg6]
  refine aw_iinc (n := 1) (x := 4) (v := 5) (L2 := [some (.ref (ad 14 0 0)), some (.int 5), none]) rfl (by decide) (by decide) rfl rfl dX8_digest_197 ?_
  refine aw_goto (tgt := 177) (by decide) dX8_digest_200 ?_
  refine aw_iload_n (x := 5) rfl dX8_digest_177 ?_
  refine aw_bipush (v := 6) (by decide) dX8_digest_178 ?_
  refine aw_icmp_ge (tgt := 203) (by decide) dX8_digest_180 (fun z => absurd z (by decide)) (fun _ => ?_)
  refine aw_aload_n (x := ad 14 0 0) rfl dX8_digest_183 ?_
  refine aw_aload_n (x := ad 14 0 0) rfl dX8_digest_184 ?_
  refine aw_getr (q := (15, 0, 0)) wv14 rfl flX8_7 rfl rfl dX8_digest_185 ?_
  refine aw_sipush (v := 231) (by decide) dX8_digest_188 ?_
  refine aw_iload_n (x := 5) rfl dX8_digest_191 ?_
  refine aw_iaddz (z := 236) (by decide) dX8_digest_192 ?_
  refine aw_ild (x := 236) (q := (8, 236)) (y := o.1 8 236) (by decide) (wv15 (by decide)) rfl rfl (Nat.le_of_ble_eq_true rfl) rfl dX8_digest_193 ?_
  refine aw_rV (As := [.int (o.1 8 236)]) (S := []) (v := none) (o2 := (wd_j o 0 (mx g6 (o.1 8 236)))) ct_mixg (mm_fit_of cbX8_mix (by decide) (by decide)) wq1180 cvX8_mix wv14 rfl rfl rfl (Nat.le_of_ble_eq_true rfl) (by decide) (by decide) rfl dX8_digest_194 ?_
  obtain ⟨g7, hg7⟩ : ∃ z, z = mx g6 (o.1 8 236) := ⟨_, rfl⟩
  rw [← hg7]
  refine aw_iinc (n := 1) (x := 5) (v := 6) (L2 := [some (.ref (ad 14 0 0)), some (.int 6), none]) rfl (by decide) (by decide) rfl rfl dX8_digest_197 ?_
  refine aw_goto (tgt := 177) (by decide) dX8_digest_200 ?_
  refine aw_iload_n (x := 6) rfl dX8_digest_177 ?_
  refine aw_bipush (v := 6) (by decide) dX8_digest_178 ?_
  refine aw_icmp_ge (tgt := 203) (by decide) dX8_digest_180 (fun _ => ?_) (fun z => absurd z (by decide))
  refine aw_aload_n (x := ad 14 0 0) rfl dX8_digest_203 ?_
  refine aw_aload_n (x := ad 14 0 0) rfl dX8_digest_204 ?_
  refine aw_geti (q := (12, 0)) (x := nI c) wv14 rfl hk flX8_29 rfl (Or.inl rfl) dX8_digest_205 ?_
  refine aw_rV (As := [.int (nI c)]) (S := []) (v := none) (o2 := (wd_j o 0 (mx g7 (nI c)))) ct_mixg (mm_fit_of cbX8_mix (by decide) (by decide)) wq1180 cvX8_mix wv14 rfl rfl rfl (Nat.le_of_ble_eq_true rfl) (by decide) (by decide) rfl dX8_digest_208 ?_
  obtain ⟨g8, hg8⟩ : ∃ z, z = mx g7 (nI c) := ⟨_, rfl⟩
  rw [← hg8]
  refine aw_aload_n (x := ad 14 0 0) rfl dX8_digest_211 ?_
  refine aw_getl flX8_158 dX8_digest_212 ?_
  exact aw_lret rfl (by decide) (by decide) dX8_digest_215 ⟨by subst hg8; subst hg7; subst hg6; subst hg5; subst hg4; subst hg3; subst hg2; subst hg1; rfl, by subst hg8; subst hg7; subst hg6; subst hg5; subst hg4; subst hg3; subst hg2; subst hg1; rfl⟩
theorem t12_dg {ad : Nat → Nat → Nat → Nat} {o : wd_S} {n m c : Nat} (J : mi (o.1 8) n m) (hk : o.1 12 0 = nI c) {h : Int64} : AW ad MX8_digest 12 [some (.ref (ad 14 0 0)), none, none] [] (wd_j o 0 h) 0 0 (RT (some (.long (rf_dg (o.1 8) n m c h))) (wd_j o 0 (rf_dg (o.1 8) n m c h))) := by
  have G := J.1
  refine aw_aload_n (x := ad 14 0 0) rfl dX8_digest_12 ?_
  refine aw_aload_n (x := ad 14 0 0) rfl dX8_digest_13 ?_
  refine aw_getr (q := (15, 0, 0)) wv14 rfl flX8_7 rfl rfl dX8_digest_14 ?_
  refine aw_iconst (v := 0) (by decide) dX8_digest_17 ?_
  refine aw_ild (x := 0) (q := (8, 0)) (y := nI n) (by decide) (wv15 (by decide)) rfl G.1 (Nat.le_of_ble_eq_true rfl) rfl dX8_digest_18 ?_
  refine aw_rV (As := [.int (nI n)]) (S := []) (v := none) (o2 := (wd_j o 0 (mx h (nI n)))) ct_mixg (mm_fit_of cbX8_mix (by decide) (by decide)) wq1180 cvX8_mix wv14 rfl rfl rfl (Nat.le_of_ble_eq_true rfl) (by decide) (by decide) rfl dX8_digest_19 ?_
  obtain ⟨g1, hg1⟩ : ∃ z, z = mx h (nI n) := ⟨_, rfl⟩
  rw [← hg1]
  refine aw_iconst (v := 0) (by decide) dX8_digest_22 ?_
  refine aw_istore_n (L2 := [some (.ref (ad 14 0 0)), some (.int 0), none]) (by decide) rfl rfl dX8_digest_23 ?_
  refine AW.locs (lp_dl J n 0 g1 (by omega) ?_) (lsub_keep (lsub_keep (lsub_keep lsub_nil)))
  refine aw_aload_n (x := ad 14 0 0) rfl dX8_digest_109 ?_
  refine aw_aload_n (x := ad 14 0 0) rfl dX8_digest_110 ?_
  refine aw_getr (q := (15, 0, 0)) wv14 rfl flX8_7 rfl rfl dX8_digest_111 ?_
  refine aw_bipush (v := 101) (by decide) dX8_digest_114 ?_
  refine aw_ild (x := 101) (q := (8, 101)) (y := nI m) (by decide) (wv15 (by decide)) rfl G.2.2.1 (Nat.le_of_ble_eq_true rfl) rfl dX8_digest_116 ?_
  refine aw_rV (As := [.int (nI m)]) (S := []) (v := none) (o2 := (wd_j o 0 (mx (rf_dgl (o.1 8) m n 0 g1) (nI m)))) ct_mixg (mm_fit_of cbX8_mix (by decide) (by decide)) wq1180 cvX8_mix wv14 rfl rfl rfl (Nat.le_of_ble_eq_true rfl) (by decide) (by decide) rfl dX8_digest_117 ?_
  obtain ⟨g2, hg2⟩ : ∃ z, z = mx (rf_dgl (o.1 8) m n 0 g1) (nI m) := ⟨_, rfl⟩
  rw [← hg2]
  refine aw_iconst (v := 0) (by decide) dX8_digest_120 ?_
  refine aw_istore_n (L2 := [some (.ref (ad 14 0 0)), some (.int 0), none]) (by decide) rfl rfl dX8_digest_121 ?_
  refine AW.locs (lp_ds G m 0 g2 (by omega) ?_) (lsub_keep (lsub_keep (lsub_keep lsub_nil)))
  subst hg2; subst hg1; exact tl_dg G hk
theorem rt_digest {ad : Nat → Nat → Nat → Nat} {o : wd_S} {n m c : Nat} (V : mv o n m c) (J : mi (o.1 8) n m) : CT ad MX8_digest [.ref (ad 14 0 0)] o (RT (some (.long (rf_dg (o.1 8) n m c 1857))) (wd_j (wd_w o 12 1 0) 0 (rf_dg (o.1 8) n m c 1857))) := by
  obtain ⟨G, hk, hc⟩ := id V
  obtain ⟨g1, g2, g3, g4, g5, g6⟩ := id G
  refine CT.of (L := [some (.ref (ad 14 0 0)), none, none]) rfl rfl (by decide) (Nat.le_of_ble_eq_true rfl) rfl ?_
  refine aw_aload_n (x := ad 14 0 0) rfl dX8_digest_0 ?_
  refine aw_iconst (v := 0) (by decide) dX8_digest_1 ?_
  refine aw_puti (q := (12, 1)) wv14 rfl fwX8_25 rfl rfl dX8_digest_2 ?_
  refine aw_aload_n (x := ad 14 0 0) rfl dX8_digest_5 ?_
  refine aw_ldc2 (v := 1857) wq1179 dX8_digest_6 ?_
  refine aw_putl fwX8_158 dX8_digest_9 ?_
  exact t12_dg (o := wd_w o 12 1 0) J hk
