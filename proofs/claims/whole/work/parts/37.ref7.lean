/-! the reference: receivers and numbers -/
theorem stl_mlifts {N : Nat → Int32} {m l s e : Nat} (hl : l < 5) (he : N (20 * l + 1) = 3 → e < 5) : stl N (mf_lifts N m l s e) := by
  have h1 : stl N (upd (upd N (101 + 8 * s + 6) 1) (101 + 8 * s + 7) 0) := (stl_upd (st_su (by decide) (by decide))).trans (stl_upd (st_su (by decide) (by decide)))
  simp only [mf_lifts]
  refine h1.trans ?_
  split
  · split
    · exact stl_comes hl
    · split
      · rename_i h3
        have he := he h3
        exact (stl_comes hl).trans ((stl_comes he).trans ((stl_upd (st_lo he (by decide) (by decide))).trans (stl_inc (by decide))))
      · split
        · split
          · exact stl_comes hl
          · exact (stl_comes hl).trans (stl_inc (by decide))
        · split
          · exact stl.rfl'
          · split
            · exact (stl_upd (st_su (by decide) (by decide))).trans (stl_inc (by decide))
            · exact (stl_upd (st_su (by decide) (by decide))).trans (stl_inc (by decide))
  · exact stl.rfl'
theorem ct_X8_lifts {ad : Nat → Nat → Nat → Nat} {o : wd_S} {n m l s : Nat} (I : mi (o.1 8) n m) (hl : l < n) (hs : s < m) (hh : o.1 8 (101 + 8 * s + 1) = nI l) : CT ad MX8_lifts [.ref (ad 14 0 0), .int (nI s)] o (RT none (wd_row o 8 (mf_lifts (o.1 8) m l s (nt (o.1 8 (20 * l + 5)))))) := by
  obtain ⟨G, J⟩ := I
  have g2 := G.2.1
  have g4 := G.2.2.2.1
  obtain ⟨h1, h2, h3, h4, h5, h6, h7, h8⟩ := J l hl
  have hl5 : l < 5 := by omega
  rcases h1 with p | p | p | p | p | p | p | p | p
  · exact ct_X8_lifts_0 G hl5 hs hh h3 h4 p
  · exact ct_X8_lifts_1 G hl5 hs hh h3 h4 p
  · exact ct_X8_lifts_2 G hl5 hs hh h3 h4 p
  · obtain ⟨a1, a2⟩ := nt_of (by omega) h2 (h5 p).1
    exact ct_X8_lifts_3 G hl5 hs hh h3 h4 p (by omega) a2
  · exact ct_X8_lifts_4 G hl5 hs hh h3 h4 p
  · exact ct_X8_lifts_5 G hl5 hs hh h3 h4 p
  · exact ct_X8_lifts_6 G hl5 hs hh h3 h4 p
  · exact ct_X8_lifts_7 G hl5 hs hh h3 h4 p
  · exact ct_X8_lifts_8 G hl5 hs hh h3 h4 p
theorem mi_e5 {N : Nat → Int32} {n m l : Nat} (I : mi N n m) (hl : l < n) (h : N (20 * l + 1) = 3) : nt (N (20 * l + 5)) < 5 := by
  have g2 := I.1.2.1
  have := (nt_of (by omega) (I.2 l hl).2.1 ((I.2 l hl).2.2.2.2.1 h).1).1
  omega
theorem mi_oth {N : Nat → Int32} {n m l : Nat} (I : mi N n m) (hl : l < n) : N (20 * l + 5) = -1 ∨ (nt (N (20 * l + 5)) < 5 ∧ N (20 * l + 5) = nI (nt (N (20 * l + 5)))) := by
  have g2 := I.1.2.1
  by_cases h : N (20 * l + 5) = -1
  · exact Or.inl h
  · have := nt_of (by omega) (I.2 l hl).2.1 h
    exact Or.inr ⟨by omega, this.2⟩
theorem mi_oth5 {N : Nat → Int32} {n m l : Nat} (I : mi N n m) (hl : l < n) : N (20 * l + 5) = -1 ∨ nt (N (20 * l + 5)) < 5 := (mi_oth I hl).imp id (fun h => h.1)
def rf_lift (o : wd_S) (m c : Nat) (x : Int32) : Out := match lk m x with
  | none => mR 1 o
  | some s => if o.1 8 (101 + 8 * s + 6) = 1 then mR 2 o else
    let N := mf_lifts (o.1 8) m (hm (o.1 8) s) s (nt (o.1 8 (20 * hm (o.1 8) s + 5)))
    oI (N (20 * hm (o.1 8) s + 1)) (wd_row (mS o c) 8 N)
def mf_hang (N : Nat → Int32) (m l s e : Nat) : Nat → Int32 :=
  let N1 := upd (upd N (101 + 8 * s + 6) 0) (101 + 8 * s + 7) 0
  if mf_state N l s = 2 then (if N (20 * l + 1) = 6 then (if orF (mf_on N1 l) m 0 = 0 then mf_comes N1 l 7 (N1 (20 * l + 3)) (N1 (20 * l + 4)) (-1) else mf_end N1 m l e) else mf_end N1 m l e) else N1
def rf_hang (o : wd_S) (m c : Nat) (x : Int32) : Out := match lk m x with
  | none => mR 1 o
  | some s => if o.1 8 (101 + 8 * s + 6) = 0 then mR 2 o else
    let N := mf_hang (o.1 8) m (hm (o.1 8) s) s (nt (o.1 8 (20 * hm (o.1 8) s + 5)))
    oI (N (20 * hm (o.1 8) s + 1)) (wd_row (mS o c) 8 N)
def mf_ld (N : Nat → Int32) (l s e le : Nat) : Int32 := if nI e = nI s then 5 else if mf_cut N le e = 0 then (if nI le = nI l then 6 else if N (20 * le + 1) = 0 then 2 else 5) else 5
theorem rt_lift {ad : Nat → Nat → Nat → Nat} {o : wd_S} {n m c : Nat} (V : mv o n m c) (J : mi (o.1 8) n m) {x : Int32} : CT ad MX8_lift [.ref (ad 14 0 0), .int x] o (OT (rf_lift o m c x)) := by
  obtain ⟨G, hk, hc⟩ := id V
  obtain ⟨g1, g2, g3, g4, g5, g6⟩ := id G
  refine CT.of (L := [some (.ref (ad 14 0 0)), some (.int x), none]) rfl rfl (by decide) (Nat.le_of_ble_eq_true rfl) rfl ?_
  refine aw_aload_n (x := ad 14 0 0) rfl dX8_lift_0 ?_
  refine aw_iload_n (x := x) rfl dX8_lift_1 ?_
  rcases k1 : lk m x with _ | s
  · skip
    refine aw_rV (As := [.int x]) (S := []) (v := some (.int 0)) (o2 := o) (ct_X8_isOne_none G k1) (mm_fit_of cbX8_isOne (by decide) (by decide)) wq961 cvX8_isOne wv14 rfl rfl rfl (Nat.le_of_ble_eq_true rfl) (by decide) (by decide) rfl dX8_lift_2 ?_
    refine aw_istore_n (L2 := [some (.ref (ad 14 0 0)), some (.int x), some (.int 0)]) (by decide) rfl rfl dX8_lift_5 ?_
    refine aw_aload_n (x := ad 14 0 0) rfl dX8_lift_6 ?_
    refine aw_iload_n (x := 0) rfl dX8_lift_7 ?_
    refine aw_if_ne (tgt := 15) (by decide) dX8_lift_8 (fun z => absurd z (by decide)) (fun _ => ?_)
    refine aw_iconst (v := 1) (by decide) dX8_lift_11 ?_
    refine aw_goto (tgt := 30) (by decide) dX8_lift_12 ?_
    refine aw_rV (As := [.int 1]) (S := []) (v := some (.int 1)) (o2 := (wd_w o 12 1 1)) (ct_refused_p (by decide)) (mm_fit_of cbX8_refused (by decide) (by decide)) wq922 cvX8_refused wv14 rfl rfl rfl (Nat.le_of_ble_eq_true rfl) (by decide) (by decide) rfl dX8_lift_30 ?_
    obtain ⟨o1, ho1⟩ : ∃ z, z = (wd_w o 12 1 1) := ⟨_, rfl⟩
    rw [← ho1]
    have Go1 : cg (o1.1 8) n m := by rw [ho1]; rw [wd_w_row, row_ne _ _ (by decide)]; exact G
    refine aw_if_eq (tgt := 38) (by decide) dX8_lift_33 (fun z => absurd z (by decide)) (fun _ => ?_)
    refine aw_iconst (v := 0) (by decide) dX8_lift_36 ?_
    exact aw_iret rfl (by decide) (by decide) dX8_lift_37 ⟨by (subst ho1; first | with_reducible rfl | (simp [rf_lift, mS, mS_8, oI, mR, oI, mR, wd_w_row, row_self, row_row, k1]; done) | (simp_all [rf_lift, mS, mS_8, oI, mR, oI, mR, wd_w_row, row_self, row_row, k1]; done) | (simp only [wd_w_row, row_self, row_row, i32_add0] at *; simp [rf_lift, mS, mS_8, oI, mR, oI, mR, wd_w_row, row_self, row_row, k1]; done)), by (subst ho1; first | with_reducible rfl | (simp [rf_lift, mS, mS_8, oI, mR, oI, mR, wd_w_row, row_self, row_row, k1]; done) | (simp_all [rf_lift, mS, mS_8, oI, mR, oI, mR, wd_w_row, row_self, row_row, k1]; done) | (simp only [wd_w_row, row_self, row_row, i32_add0] at *; simp [rf_lift, mS, mS_8, oI, mR, oI, mR, wd_w_row, row_self, row_row, k1]; done))⟩
  · skip
    obtain ⟨rfl, k1l⟩ := lk_some k1
    have k1b : s < 16 := by omega
    refine aw_rV (As := [.int (nI s)]) (S := []) (v := some (.int 1)) (o2 := o) (ct_X8_isOne_some G k1) (mm_fit_of cbX8_isOne (by decide) (by decide)) wq961 cvX8_isOne wv14 rfl rfl rfl (Nat.le_of_ble_eq_true rfl) (by decide) (by decide) rfl dX8_lift_2 ?_
    obtain ⟨lh, hlh, hh⟩ := G.2.2.2.2.1 s k1l
    have hlh5 : lh < 5 := by omega
    have hme : hm (o.1 8) s = lh := hm_of hh hlh5
    refine aw_istore_n (L2 := [some (.ref (ad 14 0 0)), some (.int (nI s)), some (.int 1)]) (by decide) rfl rfl dX8_lift_5 ?_
    refine aw_aload_n (x := ad 14 0 0) rfl dX8_lift_6 ?_
    refine aw_iload_n (x := 1) rfl dX8_lift_7 ?_
    refine aw_if_ne (tgt := 15) (by decide) dX8_lift_8 (fun _ => ?_) (fun z => absurd z (by decide))
    refine aw_aload_n (x := ad 14 0 0) rfl dX8_lift_15 ?_
    refine aw_iload_n (x := (nI s)) rfl dX8_lift_16 ?_
    refine aw_iconst (v := 5) (by decide) dX8_lift_17 ?_
    refine aw_rV (As := [.int (nI s), .int 5]) (S := [.ref (ad 14 0 0)]) (v := some (.int (o.1 8 (101 + 8 * s + 6)))) (o2 := o) (ct_X8_its (s := s) (w := 5) (by omega) (by decide)) (mm_fit_of cbX8_its (by decide) (by decide)) wq949 cvX8_its wv14 rfl rfl rfl (Nat.le_of_ble_eq_true rfl) (by decide) (by decide) rfl dX8_lift_18 ?_
    refine aw_iconst (v := 1) (by decide) dX8_lift_21 ?_
    refine aw_icmp_ne (tgt := 29) (by decide) dX8_lift_22 (fun b2 => ?_) (fun b2 => ?_)
    · skip
      refine aw_iconst (v := 0) (by decide) dX8_lift_29 ?_
      refine aw_rV (As := [.int 0]) (S := []) (v := some (.int 0)) (o2 := (wd_w o 12 1 0)) (ct_refused_0) (mm_fit_of cbX8_refused (by decide) (by decide)) wq922 cvX8_refused wv14 rfl rfl rfl (Nat.le_of_ble_eq_true rfl) (by decide) (by decide) rfl dX8_lift_30 ?_
      obtain ⟨o2, ho2⟩ : ∃ z, z = (wd_w o 12 1 0) := ⟨_, rfl⟩
      rw [← ho2]
      have Go2 : cg (o2.1 8) n m := by rw [ho2]; rw [wd_w_row, row_ne _ _ (by decide)]; exact G
      have hho2 : o2.1 8 (101 + 8 * s + 1) = nI lh := by rw [ho2]; rw [wd_w_row, row_ne _ _ (by decide)]; exact hh
      refine aw_if_eq (tgt := 38) (by decide) dX8_lift_33 (fun _ => ?_) (fun z => absurd z (by decide))
      refine aw_aload_n (x := ad 14 0 0) rfl dX8_lift_38 ?_
      refine aw_rV (As := []) (S := []) (v := none) (o2 := (ms_sv o2 c)) (ct_X8_saves (by rw [ho2, wd_get, if_neg (by decide)]; exact hk) hc) (mm_fit_of cbX8_saves (by decide) (by decide)) wq930 cvX8_saves wv14 rfl rfl rfl (Nat.le_of_ble_eq_true rfl) (by decide) (by decide) rfl dX8_lift_39 ?_
      obtain ⟨o3, ho3⟩ : ∃ z, z = (ms_sv o2 c) := ⟨_, rfl⟩
      rw [← ho3]
      have Go3 : cg (o3.1 8) n m := by rw [ho3]; rw [msv_ne (by decide) (by decide)]; exact Go2
      have hho2o3 : o3.1 8 (101 + 8 * s + 1) = nI lh := by rw [ho3]; rw [msv_ne (by decide) (by decide)]; exact hho2
      refine aw_aload_n (x := ad 14 0 0) rfl dX8_lift_42 ?_
      refine aw_iload_n (x := (nI s)) rfl dX8_lift_43 ?_
      have E8 := (show o3.1 8 = o.1 8 by rw [ho3]; rw [msv_ne (by decide) (by decide)]; rw [ho2]; rw [wd_w_row, row_ne _ _ (by decide)])
      refine aw_rV (As := [.int (nI s)]) (S := []) (v := none) (o2 := (wd_row o3 8 (mf_lifts (o3.1 8) m lh s (nt (o3.1 8 (20 * lh + 5)))))) (ct_X8_lifts (by rw [E8]; exact J) hlh (by omega) hho2o3) (mm_fit_of cbX8_lifts (by decide) (by decide)) wq1009 cvX8_lifts wv14 rfl rfl rfl (Nat.le_of_ble_eq_true rfl) (by decide) (by decide) rfl dX8_lift_44 ?_
      obtain ⟨o4, ho4⟩ : ∃ z, z = (wd_row o3 8 (mf_lifts (o3.1 8) m lh s (nt (o3.1 8 (20 * lh + 5))))) := ⟨_, rfl⟩
      rw [← ho4]
      have Go4 : cg (o4.1 8) n m := by rw [ho4]; rw [row_self]; exact cg_stl (stl_mlifts hlh5 (by rw [E8]; exact mi_e5 J hlh)) Go3
      have hho2o3o4 : o4.1 8 (101 + 8 * s + 1) = nI lh := by rw [ho4]; rw [row_self, (stl_mlifts hlh5 (by rw [E8]; exact mi_e5 J hlh)) _ (st_sub (by omega) (by decide) (by decide))]; exact hho2o3
      refine aw_aload_n (x := ad 14 0 0) rfl dX8_lift_47 ?_
      refine aw_aload_n (x := ad 14 0 0) rfl dX8_lift_48 ?_
      refine aw_iload_n (x := (nI s)) rfl dX8_lift_49 ?_
      refine aw_iconst (v := 0) (by decide) dX8_lift_50 ?_
      refine aw_rV (As := [.int (nI s), .int 0]) (S := [.ref (ad 14 0 0)]) (v := some (.int (nI lh))) (o2 := o4) (RTv (ct_X8_its (s := s) (w := 0) (by omega) (by decide)) hho2o3o4) (mm_fit_of cbX8_its (by decide) (by decide)) wq949 cvX8_its wv14 rfl rfl rfl (Nat.le_of_ble_eq_true rfl) (by decide) (by decide) rfl dX8_lift_51 ?_
      refine aw_iconst (v := 0) (by decide) dX8_lift_54 ?_
      refine aw_rV (As := [.int (nI lh), .int 0]) (S := []) (v := some (.int (o4.1 8 (20 * lh + 1)))) (o2 := o4) (ct_X8_of (l := lh) (w := 0) (by omega) (by decide)) (mm_fit_of cbX8_of (by decide) (by decide)) wq969 cvX8_of wv14 rfl rfl rfl (Nat.le_of_ble_eq_true rfl) (by decide) (by decide) rfl dX8_lift_55 ?_
      exact aw_iret rfl (by decide) (by decide) dX8_lift_58 ⟨by (subst ho4; subst ho3; subst ho2; first | with_reducible rfl | (simp [rf_lift, mS, mS_8, oI, mR, oI, mR, wd_w_row, row_self, row_row, k1, hme, b2]; done) | (simp_all [rf_lift, mS, mS_8, oI, mR, oI, mR, wd_w_row, row_self, row_row, k1, hme, b2]; done) | (simp only [wd_w_row, row_self, row_row, i32_add0] at *; simp [rf_lift, mS, mS_8, oI, mR, oI, mR, wd_w_row, row_self, row_row, k1, hme, b2]; done)), by (subst ho4; subst ho3; subst ho2; first | with_reducible rfl | (simp [rf_lift, mS, mS_8, oI, mR, oI, mR, wd_w_row, row_self, row_row, k1, hme, b2]; done) | (simp_all [rf_lift, mS, mS_8, oI, mR, oI, mR, wd_w_row, row_self, row_row, k1, hme, b2]; done) | (simp only [wd_w_row, row_self, row_row, i32_add0] at *; simp [rf_lift, mS, mS_8, oI, mR, oI, mR, wd_w_row, row_self, row_row, k1, hme, b2]; done))⟩
    · skip
      refine aw_iconst (v := 2) (by decide) dX8_lift_25 ?_
      refine aw_goto (tgt := 30) (by decide) dX8_lift_26 ?_
      refine aw_rV (As := [.int 2]) (S := []) (v := some (.int 1)) (o2 := (wd_w o 12 1 2)) (ct_refused_p (by decide)) (mm_fit_of cbX8_refused (by decide) (by decide)) wq922 cvX8_refused wv14 rfl rfl rfl (Nat.le_of_ble_eq_true rfl) (by decide) (by decide) rfl dX8_lift_30 ?_
      obtain ⟨o5, ho5⟩ : ∃ z, z = (wd_w o 12 1 2) := ⟨_, rfl⟩
      rw [← ho5]
      have Go5 : cg (o5.1 8) n m := by rw [ho5]; rw [wd_w_row, row_ne _ _ (by decide)]; exact G
      have hho5 : o5.1 8 (101 + 8 * s + 1) = nI lh := by rw [ho5]; rw [wd_w_row, row_ne _ _ (by decide)]; exact hh
      refine aw_if_eq (tgt := 38) (by decide) dX8_lift_33 (fun z => absurd z (by decide)) (fun _ => ?_)
      refine aw_iconst (v := 0) (by decide) dX8_lift_36 ?_
      exact aw_iret rfl (by decide) (by decide) dX8_lift_37 ⟨by (subst ho5; first | with_reducible rfl | (simp [rf_lift, mS, mS_8, oI, mR, oI, mR, wd_w_row, row_self, row_row, k1, hme, b2]; done) | (simp_all [rf_lift, mS, mS_8, oI, mR, oI, mR, wd_w_row, row_self, row_row, k1, hme, b2]; done) | (simp only [wd_w_row, row_self, row_row, i32_add0] at *; simp [rf_lift, mS, mS_8, oI, mR, oI, mR, wd_w_row, row_self, row_row, k1, hme, b2]; done)), by (subst ho5; first | with_reducible rfl | (simp [rf_lift, mS, mS_8, oI, mR, oI, mR, wd_w_row, row_self, row_row, k1, hme, b2]; done) | (simp_all [rf_lift, mS, mS_8, oI, mR, oI, mR, wd_w_row, row_self, row_row, k1, hme, b2]; done) | (simp only [wd_w_row, row_self, row_row, i32_add0] at *; simp [rf_lift, mS, mS_8, oI, mR, oI, mR, wd_w_row, row_self, row_row, k1, hme, b2]; done))⟩
theorem rt_hang {ad : Nat → Nat → Nat → Nat} {o : wd_S} {n m c : Nat} (V : mv o n m c) (J : mi (o.1 8) n m) {x : Int32} : CT ad MX8_hang [.ref (ad 14 0 0), .int x] o (OT (rf_hang o m c x)) := by
  obtain ⟨G, hk, hc⟩ := id V
  obtain ⟨g1, g2, g3, g4, g5, g6⟩ := id G
  refine CT.of (L := [some (.ref (ad 14 0 0)), some (.int x), none, none, none, none]) rfl rfl (by decide) (Nat.le_of_ble_eq_true rfl) rfl ?_
  refine aw_aload_n (x := ad 14 0 0) rfl dX8_hang_0 ?_
  refine aw_iload_n (x := x) rfl dX8_hang_1 ?_
  rcases k1 : lk m x with _ | s
  · skip
    refine aw_rV (As := [.int x]) (S := []) (v := some (.int 0)) (o2 := o) (ct_X8_isOne_none G k1) (mm_fit_of cbX8_isOne (by decide) (by decide)) wq961 cvX8_isOne wv14 rfl rfl rfl (Nat.le_of_ble_eq_true rfl) (by decide) (by decide) rfl dX8_hang_2 ?_
    refine aw_istore_n (L2 := [some (.ref (ad 14 0 0)), some (.int x), some (.int 0), none, none, none]) (by decide) rfl rfl dX8_hang_5 ?_
    refine aw_aload_n (x := ad 14 0 0) rfl dX8_hang_6 ?_
    refine aw_iload_n (x := 0) rfl dX8_hang_7 ?_
    refine aw_if_ne (tgt := 15) (by decide) dX8_hang_8 (fun z => absurd z (by decide)) (fun _ => ?_)
    refine aw_iconst (v := 1) (by decide) dX8_hang_11 ?_
    refine aw_goto (tgt := 29) (by decide) dX8_hang_12 ?_
    refine aw_rV (As := [.int 1]) (S := []) (v := some (.int 1)) (o2 := (wd_w o 12 1 1)) (ct_refused_p (by decide)) (mm_fit_of cbX8_refused (by decide) (by decide)) wq922 cvX8_refused wv14 rfl rfl rfl (Nat.le_of_ble_eq_true rfl) (by decide) (by decide) rfl dX8_hang_29 ?_
    obtain ⟨o1, ho1⟩ : ∃ z, z = (wd_w o 12 1 1) := ⟨_, rfl⟩
    rw [← ho1]
    have Go1 : cg (o1.1 8) n m := by rw [ho1]; rw [wd_w_row, row_ne _ _ (by decide)]; exact G
    refine aw_if_eq (tgt := 37) (by decide) dX8_hang_32 (fun z => absurd z (by decide)) (fun _ => ?_)
    refine aw_iconst (v := 0) (by decide) dX8_hang_35 ?_
    exact aw_iret rfl (by decide) (by decide) dX8_hang_36 ⟨by (subst ho1; first | with_reducible rfl | (simp [rf_hang, mf_hang, mS, mS_8, oI, mR, oI, mR, wd_w_row, row_self, row_row, k1]; done) | (simp_all [rf_hang, mf_hang, mS, mS_8, oI, mR, oI, mR, wd_w_row, row_self, row_row, k1]; done) | (simp only [wd_w_row, row_self, row_row, i32_add0] at *; simp [rf_hang, mf_hang, mS, mS_8, oI, mR, oI, mR, wd_w_row, row_self, row_row, k1]; done)), by (subst ho1; first | with_reducible rfl | (simp [rf_hang, mf_hang, mS, mS_8, oI, mR, oI, mR, wd_w_row, row_self, row_row, k1]; done) | (simp_all [rf_hang, mf_hang, mS, mS_8, oI, mR, oI, mR, wd_w_row, row_self, row_row, k1]; done) | (simp only [wd_w_row, row_self, row_row, i32_add0] at *; simp [rf_hang, mf_hang, mS, mS_8, oI, mR, oI, mR, wd_w_row, row_self, row_row, k1]; done))⟩
  · skip
    obtain ⟨rfl, k1l⟩ := lk_some k1
    have k1b : s < 16 := by omega
    refine aw_rV (As := [.int (nI s)]) (S := []) (v := some (.int 1)) (o2 := o) (ct_X8_isOne_some G k1) (mm_fit_of cbX8_isOne (by decide) (by decide)) wq961 cvX8_isOne wv14 rfl rfl rfl (Nat.le_of_ble_eq_true rfl) (by decide) (by decide) rfl dX8_hang_2 ?_
    obtain ⟨lh, hlh, hh⟩ := G.2.2.2.2.1 s k1l
    have hlh5 : lh < 5 := by omega
    have hme : hm (o.1 8) s = lh := hm_of hh hlh5
    refine aw_istore_n (L2 := [some (.ref (ad 14 0 0)), some (.int (nI s)), some (.int 1), none, none, none]) (by decide) rfl rfl dX8_hang_5 ?_
    refine aw_aload_n (x := ad 14 0 0) rfl dX8_hang_6 ?_
    refine aw_iload_n (x := 1) rfl dX8_hang_7 ?_
    refine aw_if_ne (tgt := 15) (by decide) dX8_hang_8 (fun _ => ?_) (fun z => absurd z (by decide))
    refine aw_aload_n (x := ad 14 0 0) rfl dX8_hang_15 ?_
    refine aw_iload_n (x := (nI s)) rfl dX8_hang_16 ?_
    refine aw_iconst (v := 5) (by decide) dX8_hang_17 ?_
    refine aw_rV (As := [.int (nI s), .int 5]) (S := [.ref (ad 14 0 0)]) (v := some (.int (o.1 8 (101 + 8 * s + 6)))) (o2 := o) (ct_X8_its (s := s) (w := 5) (by omega) (by decide)) (mm_fit_of cbX8_its (by decide) (by decide)) wq949 cvX8_its wv14 rfl rfl rfl (Nat.le_of_ble_eq_true rfl) (by decide) (by decide) rfl dX8_hang_18 ?_
    refine aw_if_ne (tgt := 28) (by decide) dX8_hang_21 (fun b2 => ?_) (fun b2 => ?_)
    · skip
      refine aw_iconst (v := 0) (by decide) dX8_hang_28 ?_
      refine aw_rV (As := [.int 0]) (S := []) (v := some (.int 0)) (o2 := (wd_w o 12 1 0)) (ct_refused_0) (mm_fit_of cbX8_refused (by decide) (by decide)) wq922 cvX8_refused wv14 rfl rfl rfl (Nat.le_of_ble_eq_true rfl) (by decide) (by decide) rfl dX8_hang_29 ?_
      obtain ⟨o2, ho2⟩ : ∃ z, z = (wd_w o 12 1 0) := ⟨_, rfl⟩
      rw [← ho2]
      have Go2 : cg (o2.1 8) n m := by rw [ho2]; rw [wd_w_row, row_ne _ _ (by decide)]; exact G
      have hho2 : o2.1 8 (101 + 8 * s + 1) = nI lh := by rw [ho2]; rw [wd_w_row, row_ne _ _ (by decide)]; exact hh
      refine aw_if_eq (tgt := 37) (by decide) dX8_hang_32 (fun _ => ?_) (fun z => absurd z (by decide))
      refine aw_aload_n (x := ad 14 0 0) rfl dX8_hang_37 ?_
      refine aw_rV (As := []) (S := []) (v := none) (o2 := (ms_sv o2 c)) (ct_X8_saves (by rw [ho2, wd_get, if_neg (by decide)]; exact hk) hc) (mm_fit_of cbX8_saves (by decide) (by decide)) wq930 cvX8_saves wv14 rfl rfl rfl (Nat.le_of_ble_eq_true rfl) (by decide) (by decide) rfl dX8_hang_38 ?_
      obtain ⟨o3, ho3⟩ : ∃ z, z = (ms_sv o2 c) := ⟨_, rfl⟩
      rw [← ho3]
      have Go3 : cg (o3.1 8) n m := by rw [ho3]; rw [msv_ne (by decide) (by decide)]; exact Go2
      have hho2o3 : o3.1 8 (101 + 8 * s + 1) = nI lh := by rw [ho3]; rw [msv_ne (by decide) (by decide)]; exact hho2
      refine aw_aload_n (x := ad 14 0 0) rfl dX8_hang_41 ?_
      refine aw_iload_n (x := (nI s)) rfl dX8_hang_42 ?_
      refine aw_iconst (v := 0) (by decide) dX8_hang_43 ?_
      refine aw_rV (As := [.int (nI s), .int 0]) (S := []) (v := some (.int (nI lh))) (o2 := o3) (RTv (ct_X8_its (s := s) (w := 0) (by omega) (by decide)) hho2o3) (mm_fit_of cbX8_its (by decide) (by decide)) wq949 cvX8_its wv14 rfl rfl rfl (Nat.le_of_ble_eq_true rfl) (by decide) (by decide) rfl dX8_hang_44 ?_
      refine aw_istore_n (L2 := [some (.ref (ad 14 0 0)), some (.int (nI s)), some (.int 1), some (.int (nI lh)), none, none]) (by decide) rfl rfl dX8_hang_47 ?_
      refine aw_aload_n (x := ad 14 0 0) rfl dX8_hang_48 ?_
      refine aw_iload_n (x := (nI lh)) rfl dX8_hang_49 ?_
      refine aw_iconst (v := 0) (by decide) dX8_hang_50 ?_
      refine aw_rV (As := [.int (nI lh), .int 0]) (S := []) (v := some (.int (o3.1 8 (20 * lh + 1)))) (o2 := o3) (ct_X8_of (l := lh) (w := 0) (by omega) (by decide)) (mm_fit_of cbX8_of (by decide) (by decide)) wq969 cvX8_of wv14 rfl rfl rfl (Nat.le_of_ble_eq_true rfl) (by decide) (by decide) rfl dX8_hang_51 ?_
      refine aw_istore (L2 := [some (.ref (ad 14 0 0)), some (.int (nI s)), some (.int 1), some (.int (nI lh)), some (.int (o3.1 8 (20 * lh + 1))), none]) (by decide) rfl rfl dX8_hang_54 ?_
      refine aw_aload_n (x := ad 14 0 0) rfl dX8_hang_56 ?_
      refine aw_iload_n (x := (nI s)) rfl dX8_hang_57 ?_
      refine aw_rV (As := [.int (nI s)]) (S := []) (v := some (.int (mf_state (o3.1 8) lh s))) (o2 := o3) (ct_X8_state Go3 hlh5 (by omega) hho2o3) (mm_fit_of cbX8_state (by decide) (by decide)) wq989 cvX8_state wv14 rfl rfl rfl (Nat.le_of_ble_eq_true rfl) (by decide) (by decide) rfl dX8_hang_58 ?_
      refine aw_iconst (v := 2) (by decide) dX8_hang_61 ?_
      refine aw_icmp_ne (tgt := 69) (by decide) dX8_hang_62 (fun b3 => ?_) (fun b3 => ?_)
      · skip
        refine aw_iconst (v := 0) (by decide) dX8_hang_69 ?_
        refine aw_istore (L2 := [some (.ref (ad 14 0 0)), some (.int (nI s)), some (.int 1), some (.int (nI lh)), some (.int (o3.1 8 (20 * lh + 1))), some (.int 0)]) (by decide) rfl rfl dX8_hang_70 ?_
        refine aw_aload_n (x := ad 14 0 0) rfl dX8_hang_72 ?_
        refine aw_iload_n (x := (nI s)) rfl dX8_hang_73 ?_
        refine aw_iconst (v := 5) (by decide) dX8_hang_74 ?_
        refine aw_iconst (v := 0) (by decide) dX8_hang_75 ?_
        refine aw_rV (As := [.int (nI s), .int 5, .int 0]) (S := []) (v := none) (o2 := (wd_w o3 8 (101 + 8 * s + 6) 0)) (ct_X8_give (s := s) (w := 5) (by omega) (by decide)) (mm_fit_of cbX8_give (by decide) (by decide)) wq953 cvX8_give wv14 rfl rfl rfl (Nat.le_of_ble_eq_true rfl) (by decide) (by decide) rfl dX8_hang_76 ?_
        refine aw_aload_n (x := ad 14 0 0) rfl dX8_hang_79 ?_
        refine aw_iload_n (x := (nI s)) rfl dX8_hang_80 ?_
        refine aw_bipush (v := 6) (by decide) dX8_hang_81 ?_
        refine aw_iconst (v := 0) (by decide) dX8_hang_83 ?_
        refine aw_rV (As := [.int (nI s), .int 6, .int 0]) (S := []) (v := none) (o2 := (wd_w (wd_w o3 8 (101 + 8 * s + 6) 0) 8 (101 + 8 * s + 7) 0)) (ct_X8_give (s := s) (w := 6) (by omega) (by decide)) (mm_fit_of cbX8_give (by decide) (by decide)) wq953 cvX8_give wv14 rfl rfl rfl (Nat.le_of_ble_eq_true rfl) (by decide) (by decide) rfl dX8_hang_84 ?_
        refine aw_iload (x := 0) rfl dX8_hang_87 ?_
        refine aw_if_eq (tgt := 135) (by decide) dX8_hang_89 (fun _ => ?_) (fun z => absurd z (by decide))
        refine aw_aload_n (x := ad 14 0 0) rfl dX8_hang_135 ?_
        refine aw_iload_n (x := (nI lh)) rfl dX8_hang_136 ?_
        refine aw_iconst (v := 0) (by decide) dX8_hang_137 ?_
        obtain ⟨o4, ho4⟩ : ∃ z, z = (wd_w (wd_w o3 8 (101 + 8 * s + 6) 0) 8 (101 + 8 * s + 7) 0) := ⟨_, rfl⟩
        rw [← ho4]
        have Go4 : cg (o4.1 8) n m := by rw [ho4]; simp only [wd_w_row, row_self]; exact cg_upd (cg_upd (Go3) (by omega) (by omega) (fun _ _ => ⟨by omega, by omega⟩)) (by omega) (by omega) (fun _ _ => ⟨by omega, by omega⟩)
        have hho2o3o4 : o4.1 8 (101 + 8 * s + 1) = nI lh := by rw [ho4]; simp only [wd_w_row, row_self]; rw [upd_ne _ _ (by omega)]; rw [upd_ne _ _ (by omega)]; exact hho2o3
        refine aw_rV (As := [.int (nI lh), .int 0]) (S := []) (v := some (.int (o4.1 8 (20 * lh + 1)))) (o2 := o4) (ct_X8_of (l := lh) (w := 0) (by omega) (by decide)) (mm_fit_of cbX8_of (by decide) (by decide)) wq969 cvX8_of wv14 rfl rfl rfl (Nat.le_of_ble_eq_true rfl) (by decide) (by decide) rfl dX8_hang_138 ?_
        exact aw_iret rfl (by decide) (by decide) dX8_hang_141 ⟨by (subst ho4; subst ho3; subst ho2; first | with_reducible rfl | (simp [rf_hang, mf_hang, mS, mS_8, oI, mR, oI, mR, wd_w_row, row_self, row_row, k1, hme, b2, b3]; done) | (simp_all [rf_hang, mf_hang, mS, mS_8, oI, mR, oI, mR, wd_w_row, row_self, row_row, k1, hme, b2, b3]; done) | (simp only [wd_w_row, row_self, row_row, i32_add0] at *; simp [rf_hang, mf_hang, mS, mS_8, oI, mR, oI, mR, wd_w_row, row_self, row_row, k1, hme, b2, b3]; done)), by (subst ho4; subst ho3; subst ho2; first | with_reducible rfl | (simp [rf_hang, mf_hang, mS, mS_8, oI, mR, oI, mR, wd_w_row, row_self, row_row, k1, hme, b2, b3]; done) | (simp_all [rf_hang, mf_hang, mS, mS_8, oI, mR, oI, mR, wd_w_row, row_self, row_row, k1, hme, b2, b3]; done) | (simp only [wd_w_row, row_self, row_row, i32_add0] at *; simp [rf_hang, mf_hang, mS, mS_8, oI, mR, oI, mR, wd_w_row, row_self, row_row, k1, hme, b2, b3]; done))⟩
      · skip
        refine aw_iconst (v := 1) (by decide) dX8_hang_65 ?_
        refine aw_goto (tgt := 70) (by decide) dX8_hang_66 ?_
        refine aw_istore (L2 := [some (.ref (ad 14 0 0)), some (.int (nI s)), some (.int 1), some (.int (nI lh)), some (.int (o3.1 8 (20 * lh + 1))), some (.int 1)]) (by decide) rfl rfl dX8_hang_70 ?_
        refine aw_aload_n (x := ad 14 0 0) rfl dX8_hang_72 ?_
        refine aw_iload_n (x := (nI s)) rfl dX8_hang_73 ?_
        refine aw_iconst (v := 5) (by decide) dX8_hang_74 ?_
        refine aw_iconst (v := 0) (by decide) dX8_hang_75 ?_
        refine aw_rV (As := [.int (nI s), .int 5, .int 0]) (S := []) (v := none) (o2 := (wd_w o3 8 (101 + 8 * s + 6) 0)) (ct_X8_give (s := s) (w := 5) (by omega) (by decide)) (mm_fit_of cbX8_give (by decide) (by decide)) wq953 cvX8_give wv14 rfl rfl rfl (Nat.le_of_ble_eq_true rfl) (by decide) (by decide) rfl dX8_hang_76 ?_
        refine aw_aload_n (x := ad 14 0 0) rfl dX8_hang_79 ?_
        refine aw_iload_n (x := (nI s)) rfl dX8_hang_80 ?_
        refine aw_bipush (v := 6) (by decide) dX8_hang_81 ?_
        refine aw_iconst (v := 0) (by decide) dX8_hang_83 ?_
        refine aw_rV (As := [.int (nI s), .int 6, .int 0]) (S := []) (v := none) (o2 := (wd_w (wd_w o3 8 (101 + 8 * s + 6) 0) 8 (101 + 8 * s + 7) 0)) (ct_X8_give (s := s) (w := 6) (by omega) (by decide)) (mm_fit_of cbX8_give (by decide) (by decide)) wq953 cvX8_give wv14 rfl rfl rfl (Nat.le_of_ble_eq_true rfl) (by decide) (by decide) rfl dX8_hang_84 ?_
        refine aw_iload (x := 1) rfl dX8_hang_87 ?_
        refine aw_if_eq (tgt := 135) (by decide) dX8_hang_89 (fun z => absurd z (by decide)) (fun _ => ?_)
        refine aw_iload (x := (o3.1 8 (20 * lh + 1))) rfl dX8_hang_92 ?_
        refine aw_bipush (v := 6) (by decide) dX8_hang_94 ?_
        refine aw_icmp_ne (tgt := 130) (by decide) dX8_hang_96 (fun b4 => ?_) (fun b4 => ?_)
        · skip
          refine aw_aload_n (x := ad 14 0 0) rfl dX8_hang_130 ?_
          refine aw_iload_n (x := (nI lh)) rfl dX8_hang_131 ?_
          obtain ⟨o5, ho5⟩ : ∃ z, z = (wd_w (wd_w o3 8 (101 + 8 * s + 6) 0) 8 (101 + 8 * s + 7) 0) := ⟨_, rfl⟩
          rw [← ho5]
          have Go5 : cg (o5.1 8) n m := by rw [ho5]; simp only [wd_w_row, row_self]; exact cg_upd (cg_upd (Go3) (by omega) (by omega) (fun _ _ => ⟨by omega, by omega⟩)) (by omega) (by omega) (fun _ _ => ⟨by omega, by omega⟩)
          have hho2o3o5 : o5.1 8 (101 + 8 * s + 1) = nI lh := by rw [ho5]; simp only [wd_w_row, row_self]; rw [upd_ne _ _ (by omega)]; rw [upd_ne _ _ (by omega)]; exact hho2o3
          have E5 : o5.1 8 (20 * lh + 5) = o.1 8 (20 * lh + 5) := by rw [ho5]; simp only [wd_w_row, row_self]; rw [upd_ne _ _ (by omega), upd_ne _ _ (by omega), (show o3.1 8 = o.1 8 by rw [ho3]; rw [msv_ne (by decide) (by decide)]; rw [ho2]; rw [wd_w_row, row_ne _ _ (by decide)])]
          refine aw_rV (As := [.int (nI lh)]) (S := []) (v := none) (o2 := (wd_row o5 8 (mf_end (o5.1 8) m lh (nt (o.1 8 (20 * lh + 5)))))) (ct_X8_ends Go5 hlh5 (by rw [E5]; exact mi_oth J hlh)) (mm_fit_of cbX8_ends (by decide) (by decide)) wq1033 cvX8_ends wv14 rfl rfl rfl (Nat.le_of_ble_eq_true rfl) (by decide) (by decide) rfl dX8_hang_132 ?_
          obtain ⟨o6, ho6⟩ : ∃ z, z = (wd_row o5 8 (mf_end (o5.1 8) m lh (nt (o.1 8 (20 * lh + 5))))) := ⟨_, rfl⟩
          rw [← ho6]
          have Go6 : cg (o6.1 8) n m := by rw [ho6]; rw [row_self]; exact cg_stl (stl_mend2 hlh5 (by rw [E5]; exact mi_oth5 J hlh)) Go5
          have hho2o3o5o6 : o6.1 8 (101 + 8 * s + 1) = nI lh := by rw [ho6]; rw [row_self, (stl_mend2 hlh5 (by rw [E5]; exact mi_oth5 J hlh)) _ (st_sub (by omega) (by decide) (by decide))]; exact hho2o3o5
          refine aw_aload_n (x := ad 14 0 0) rfl dX8_hang_135 ?_
          refine aw_iload_n (x := (nI lh)) rfl dX8_hang_136 ?_
          refine aw_iconst (v := 0) (by decide) dX8_hang_137 ?_
          refine aw_rV (As := [.int (nI lh), .int 0]) (S := []) (v := some (.int (o6.1 8 (20 * lh + 1)))) (o2 := o6) (ct_X8_of (l := lh) (w := 0) (by omega) (by decide)) (mm_fit_of cbX8_of (by decide) (by decide)) wq969 cvX8_of wv14 rfl rfl rfl (Nat.le_of_ble_eq_true rfl) (by decide) (by decide) rfl dX8_hang_138 ?_
          exact aw_iret rfl (by decide) (by decide) dX8_hang_141 ⟨by (subst ho6; subst ho5; subst ho3; subst ho2; first | with_reducible rfl | (simp [rf_hang, mf_hang, mS, mS_8, oI, mR, oI, mR, wd_w_row, row_self, row_row, k1, hme, b2, b3, b4]; done) | (simp_all [rf_hang, mf_hang, mS, mS_8, oI, mR, oI, mR, wd_w_row, row_self, row_row, k1, hme, b2, b3, b4]; done) | (simp only [wd_w_row, row_self, row_row, i32_add0] at *; simp [rf_hang, mf_hang, mS, mS_8, oI, mR, oI, mR, wd_w_row, row_self, row_row, k1, hme, b2, b3, b4]; done)), by (subst ho6; subst ho5; subst ho3; subst ho2; first | with_reducible rfl | (simp [rf_hang, mf_hang, mS, mS_8, oI, mR, oI, mR, wd_w_row, row_self, row_row, k1, hme, b2, b3, b4]; done) | (simp_all [rf_hang, mf_hang, mS, mS_8, oI, mR, oI, mR, wd_w_row, row_self, row_row, k1, hme, b2, b3, b4]; done) | (simp only [wd_w_row, row_self, row_row, i32_add0] at *; simp [rf_hang, mf_hang, mS, mS_8, oI, mR, oI, mR, wd_w_row, row_self, row_row, k1, hme, b2, b3, b4]; done))⟩
        · skip
          refine aw_aload_n (x := ad 14 0 0) rfl dX8_hang_99 ?_
          refine aw_iload_n (x := (nI lh)) rfl dX8_hang_100 ?_
          obtain ⟨o7, ho7⟩ : ∃ z, z = (wd_w (wd_w o3 8 (101 + 8 * s + 6) 0) 8 (101 + 8 * s + 7) 0) := ⟨_, rfl⟩
          rw [← ho7]
          have Go7 : cg (o7.1 8) n m := by rw [ho7]; simp only [wd_w_row, row_self]; exact cg_upd (cg_upd (Go3) (by omega) (by omega) (fun _ _ => ⟨by omega, by omega⟩)) (by omega) (by omega) (fun _ _ => ⟨by omega, by omega⟩)
          have hho2o3o7 : o7.1 8 (101 + 8 * s + 1) = nI lh := by rw [ho7]; simp only [wd_w_row, row_self]; rw [upd_ne _ _ (by omega)]; rw [upd_ne _ _ (by omega)]; exact hho2o3
          refine aw_rV (As := [.int (nI lh)]) (S := []) (v := some (.int (orF (mf_on (o7.1 8) lh) m 0))) (o2 := o7) (ct_X8_isAnyOn Go7 hlh5) (mm_fit_of cbX8_isAnyOn (by decide) (by decide)) wq1025 cvX8_isAnyOn wv14 rfl rfl rfl (Nat.le_of_ble_eq_true rfl) (by decide) (by decide) rfl dX8_hang_101 ?_
          refine aw_if_ne (tgt := 130) (by decide) dX8_hang_104 (fun b5 => ?_) (fun b5 => ?_)
          · skip
            refine aw_aload_n (x := ad 14 0 0) rfl dX8_hang_130 ?_
            refine aw_iload_n (x := (nI lh)) rfl dX8_hang_131 ?_
            have E5 : o7.1 8 (20 * lh + 5) = o.1 8 (20 * lh + 5) := by rw [ho7]; simp only [wd_w_row, row_self]; rw [upd_ne _ _ (by omega), upd_ne _ _ (by omega), (show o3.1 8 = o.1 8 by rw [ho3]; rw [msv_ne (by decide) (by decide)]; rw [ho2]; rw [wd_w_row, row_ne _ _ (by decide)])]
            refine aw_rV (As := [.int (nI lh)]) (S := []) (v := none) (o2 := (wd_row o7 8 (mf_end (o7.1 8) m lh (nt (o.1 8 (20 * lh + 5)))))) (ct_X8_ends Go7 hlh5 (by rw [E5]; exact mi_oth J hlh)) (mm_fit_of cbX8_ends (by decide) (by decide)) wq1033 cvX8_ends wv14 rfl rfl rfl (Nat.le_of_ble_eq_true rfl) (by decide) (by decide) rfl dX8_hang_132 ?_
            obtain ⟨o8, ho8⟩ : ∃ z, z = (wd_row o7 8 (mf_end (o7.1 8) m lh (nt (o.1 8 (20 * lh + 5))))) := ⟨_, rfl⟩
            rw [← ho8]
            have Go8 : cg (o8.1 8) n m := by rw [ho8]; rw [row_self]; exact cg_stl (stl_mend2 hlh5 (by rw [E5]; exact mi_oth5 J hlh)) Go7
            have hho2o3o7o8 : o8.1 8 (101 + 8 * s + 1) = nI lh := by rw [ho8]; rw [row_self, (stl_mend2 hlh5 (by rw [E5]; exact mi_oth5 J hlh)) _ (st_sub (by omega) (by decide) (by decide))]; exact hho2o3o7
            refine aw_aload_n (x := ad 14 0 0) rfl dX8_hang_135 ?_
            refine aw_iload_n (x := (nI lh)) rfl dX8_hang_136 ?_
            refine aw_iconst (v := 0) (by decide) dX8_hang_137 ?_
            refine aw_rV (As := [.int (nI lh), .int 0]) (S := []) (v := some (.int (o8.1 8 (20 * lh + 1)))) (o2 := o8) (ct_X8_of (l := lh) (w := 0) (by omega) (by decide)) (mm_fit_of cbX8_of (by decide) (by decide)) wq969 cvX8_of wv14 rfl rfl rfl (Nat.le_of_ble_eq_true rfl) (by decide) (by decide) rfl dX8_hang_138 ?_
            exact aw_iret rfl (by decide) (by decide) dX8_hang_141 ⟨by (subst ho8; subst ho7; subst ho3; subst ho2; first | with_reducible rfl | (simp [rf_hang, mf_hang, mS, mS_8, oI, mR, oI, mR, wd_w_row, row_self, row_row, k1, hme, b2, b3, b4, b5]; done) | (simp_all [rf_hang, mf_hang, mS, mS_8, oI, mR, oI, mR, wd_w_row, row_self, row_row, k1, hme, b2, b3, b4, b5]; done) | (simp only [wd_w_row, row_self, row_row, i32_add0] at *; simp [rf_hang, mf_hang, mS, mS_8, oI, mR, oI, mR, wd_w_row, row_self, row_row, k1, hme, b2, b3, b4, b5]; done)), by (subst ho8; subst ho7; subst ho3; subst ho2; first | with_reducible rfl | (simp [rf_hang, mf_hang, mS, mS_8, oI, mR, oI, mR, wd_w_row, row_self, row_row, k1, hme, b2, b3, b4, b5]; done) | (simp_all [rf_hang, mf_hang, mS, mS_8, oI, mR, oI, mR, wd_w_row, row_self, row_row, k1, hme, b2, b3, b4, b5]; done) | (simp only [wd_w_row, row_self, row_row, i32_add0] at *; simp [rf_hang, mf_hang, mS, mS_8, oI, mR, oI, mR, wd_w_row, row_self, row_row, k1, hme, b2, b3, b4, b5]; done))⟩
          · skip
            refine aw_aload_n (x := ad 14 0 0) rfl dX8_hang_107 ?_
            refine aw_iload_n (x := (nI lh)) rfl dX8_hang_108 ?_
            refine aw_bipush (v := 7) (by decide) dX8_hang_109 ?_
            refine aw_aload_n (x := ad 14 0 0) rfl dX8_hang_111 ?_
            refine aw_iload_n (x := (nI lh)) rfl dX8_hang_112 ?_
            refine aw_iconst (v := 2) (by decide) dX8_hang_113 ?_
            refine aw_rV (As := [.int (nI lh), .int 2]) (S := [.int 7, .int (nI lh), .ref (ad 14 0 0)]) (v := some (.int (o7.1 8 (20 * lh + 3)))) (o2 := o7) (ct_X8_of (l := lh) (w := 2) (by omega) (by decide)) (mm_fit_of cbX8_of (by decide) (by decide)) wq969 cvX8_of wv14 rfl rfl rfl (Nat.le_of_ble_eq_true rfl) (by decide) (by decide) rfl dX8_hang_114 ?_
            refine aw_aload_n (x := ad 14 0 0) rfl dX8_hang_117 ?_
            refine aw_iload_n (x := (nI lh)) rfl dX8_hang_118 ?_
            refine aw_iconst (v := 3) (by decide) dX8_hang_119 ?_
            refine aw_rV (As := [.int (nI lh), .int 3]) (S := [.int (o7.1 8 (20 * lh + 3)), .int 7, .int (nI lh), .ref (ad 14 0 0)]) (v := some (.int (o7.1 8 (20 * lh + 4)))) (o2 := o7) (ct_X8_of (l := lh) (w := 3) (by omega) (by decide)) (mm_fit_of cbX8_of (by decide) (by decide)) wq969 cvX8_of wv14 rfl rfl rfl (Nat.le_of_ble_eq_true rfl) (by decide) (by decide) rfl dX8_hang_120 ?_
            refine aw_iconst (v := (-1)) (by decide) dX8_hang_123 ?_
            refine aw_rV (As := [.int (nI lh), .int 7, .int (o7.1 8 (20 * lh + 3)), .int (o7.1 8 (20 * lh + 4)), .int (-1)]) (S := []) (v := none) (o2 := (wd_row o7 8 (mf_comes (o7.1 8) lh 7 (o7.1 8 (20 * lh + 3)) (o7.1 8 (20 * lh + 4)) (-1)))) (ct_X8_comes (by omega)) (mm_fit_of cbX8_comes (by decide) (by decide)) wq1013 cvX8_comes wv14 rfl rfl rfl (Nat.le_of_ble_eq_true rfl) (by decide) (by decide) rfl dX8_hang_124 ?_
            obtain ⟨o9, ho9⟩ : ∃ z, z = (wd_row o7 8 (mf_comes (o7.1 8) lh 7 (o7.1 8 (20 * lh + 3)) (o7.1 8 (20 * lh + 4)) (-1))) := ⟨_, rfl⟩
            rw [← ho9]
            have Go9 : cg (o9.1 8) n m := by rw [ho9]; rw [row_self]; exact cg_stl (stl_comes (by omega)) Go7
            have hho2o3o7o9 : o9.1 8 (101 + 8 * s + 1) = nI lh := by rw [ho9]; rw [row_self]; rw [mcomes_ne (by omega)]; exact hho2o3o7
            refine aw_goto (tgt := 135) (by decide) dX8_hang_127 ?_
            refine aw_aload_n (x := ad 14 0 0) rfl dX8_hang_135 ?_
            refine aw_iload_n (x := (nI lh)) rfl dX8_hang_136 ?_
            refine aw_iconst (v := 0) (by decide) dX8_hang_137 ?_
            refine aw_rV (As := [.int (nI lh), .int 0]) (S := []) (v := some (.int (o9.1 8 (20 * lh + 1)))) (o2 := o9) (ct_X8_of (l := lh) (w := 0) (by omega) (by decide)) (mm_fit_of cbX8_of (by decide) (by decide)) wq969 cvX8_of wv14 rfl rfl rfl (Nat.le_of_ble_eq_true rfl) (by decide) (by decide) rfl dX8_hang_138 ?_
            exact aw_iret rfl (by decide) (by decide) dX8_hang_141 ⟨by (subst ho9; subst ho7; subst ho3; subst ho2; first | with_reducible rfl | (simp [rf_hang, mf_hang, mS, mS_8, oI, mR, oI, mR, wd_w_row, row_self, row_row, k1, hme, b2, b3, b4, b5]; done) | (simp_all [rf_hang, mf_hang, mS, mS_8, oI, mR, oI, mR, wd_w_row, row_self, row_row, k1, hme, b2, b3, b4, b5]; done) | (simp only [wd_w_row, row_self, row_row, i32_add0] at *; simp [rf_hang, mf_hang, mS, mS_8, oI, mR, oI, mR, wd_w_row, row_self, row_row, k1, hme, b2, b3, b4, b5]; done)), by (subst ho9; subst ho7; subst ho3; subst ho2; first | with_reducible rfl | (simp [rf_hang, mf_hang, mS, mS_8, oI, mR, oI, mR, wd_w_row, row_self, row_row, k1, hme, b2, b3, b4, b5]; done) | (simp_all [rf_hang, mf_hang, mS, mS_8, oI, mR, oI, mR, wd_w_row, row_self, row_row, k1, hme, b2, b3, b4, b5]; done) | (simp only [wd_w_row, row_self, row_row, i32_add0] at *; simp [rf_hang, mf_hang, mS, mS_8, oI, mR, oI, mR, wd_w_row, row_self, row_row, k1, hme, b2, b3, b4, b5]; done))⟩
    · skip
      refine aw_iconst (v := 2) (by decide) dX8_hang_24 ?_
      refine aw_goto (tgt := 29) (by decide) dX8_hang_25 ?_
      refine aw_rV (As := [.int 2]) (S := []) (v := some (.int 1)) (o2 := (wd_w o 12 1 2)) (ct_refused_p (by decide)) (mm_fit_of cbX8_refused (by decide) (by decide)) wq922 cvX8_refused wv14 rfl rfl rfl (Nat.le_of_ble_eq_true rfl) (by decide) (by decide) rfl dX8_hang_29 ?_
      obtain ⟨o10, ho10⟩ : ∃ z, z = (wd_w o 12 1 2) := ⟨_, rfl⟩
      rw [← ho10]
      have Go10 : cg (o10.1 8) n m := by rw [ho10]; rw [wd_w_row, row_ne _ _ (by decide)]; exact G
      have hho10 : o10.1 8 (101 + 8 * s + 1) = nI lh := by rw [ho10]; rw [wd_w_row, row_ne _ _ (by decide)]; exact hh
      refine aw_if_eq (tgt := 37) (by decide) dX8_hang_32 (fun z => absurd z (by decide)) (fun _ => ?_)
      refine aw_iconst (v := 0) (by decide) dX8_hang_35 ?_
      exact aw_iret rfl (by decide) (by decide) dX8_hang_36 ⟨by (subst ho10; first | with_reducible rfl | (simp [rf_hang, mf_hang, mS, mS_8, oI, mR, oI, mR, wd_w_row, row_self, row_row, k1, hme, b2]; done) | (simp_all [rf_hang, mf_hang, mS, mS_8, oI, mR, oI, mR, wd_w_row, row_self, row_row, k1, hme, b2]; done) | (simp only [wd_w_row, row_self, row_row, i32_add0] at *; simp [rf_hang, mf_hang, mS, mS_8, oI, mR, oI, mR, wd_w_row, row_self, row_row, k1, hme, b2]; done)), by (subst ho10; first | with_reducible rfl | (simp [rf_hang, mf_hang, mS, mS_8, oI, mR, oI, mR, wd_w_row, row_self, row_row, k1, hme, b2]; done) | (simp_all [rf_hang, mf_hang, mS, mS_8, oI, mR, oI, mR, wd_w_row, row_self, row_row, k1, hme, b2]; done) | (simp only [wd_w_row, row_self, row_row, i32_add0] at *; simp [rf_hang, mf_hang, mS, mS_8, oI, mR, oI, mR, wd_w_row, row_self, row_row, k1, hme, b2]; done))⟩
theorem ct_leads_none {ad : Nat → Nat → Nat → Nat} {o : wd_S} {n m : Nat} (G : cg (o.1 8) n m) {l s : Nat} (hl : l < n) (hs : s < m) (hss : o.1 8 (101 + 8 * s + 1) = nI l) {y : Int32} (hy : lk m y = none) : CT ad MX8_leadsTo [.ref (ad 14 0 0), .int (nI s), .int y] o (RT (some (.int 5)) o) := by
  obtain ⟨g1, g2, g3, g4, g5, g6⟩ := id G
  refine CT.of (L := [some (.ref (ad 14 0 0)), some (.int (nI s)), some (.int y), none]) rfl rfl (by decide) (Nat.le_of_ble_eq_true rfl) rfl ?_
  refine aw_aload_n (x := ad 14 0 0) rfl dX8_leadsTo_0 ?_
  refine aw_iload_n (x := y) rfl dX8_leadsTo_1 ?_
  refine aw_rV (As := [.int y]) (S := []) (v := some (.int 0)) (o2 := o) (ct_X8_isOne_none G hy) (mm_fit_of cbX8_isOne (by decide) (by decide)) wq961 cvX8_isOne wv14 rfl rfl rfl (Nat.le_of_ble_eq_true rfl) (by decide) (by decide) rfl dX8_leadsTo_2 ?_
  refine aw_if_eq (tgt := 21) (by decide) dX8_leadsTo_5 (fun _ => ?_) (fun z => absurd z (by decide))
  refine aw_iconst (v := 5) (by decide) dX8_leadsTo_21 ?_
  exact aw_iret rfl (by decide) (by decide) dX8_leadsTo_22 ⟨by (first | with_reducible rfl | (simp [oI, mR, wd_w_row, row_self, row_row]; done) | (simp_all [oI, mR, wd_w_row, row_self, row_row]; done) | (simp only [wd_w_row, row_self, row_row, i32_add0] at *; simp [oI, mR, wd_w_row, row_self, row_row]; done)), by (first | with_reducible rfl | (simp [oI, mR, wd_w_row, row_self, row_row]; done) | (simp_all [oI, mR, wd_w_row, row_self, row_row]; done) | (simp only [wd_w_row, row_self, row_row, i32_add0] at *; simp [oI, mR, wd_w_row, row_self, row_row]; done))⟩
theorem ct_leads_some {ad : Nat → Nat → Nat → Nat} {o : wd_S} {n m : Nat} (G : cg (o.1 8) n m) {l s : Nat} (hl : l < n) (hs : s < m) (hss : o.1 8 (101 + 8 * s + 1) = nI l) {e le : Nat} (he : e < m) (hle : le < n) (hee : o.1 8 (101 + 8 * e + 1) = nI le) : CT ad MX8_leadsTo [.ref (ad 14 0 0), .int (nI s), .int (nI e)] o (RT (some (.int (mf_ld (o.1 8) l s e le))) o) := by
  obtain ⟨g1, g2, g3, g4, g5, g6⟩ := id G
  have hle5 : le < 5 := by omega
  refine CT.of (L := [some (.ref (ad 14 0 0)), some (.int (nI s)), some (.int (nI e)), none]) rfl rfl (by decide) (Nat.le_of_ble_eq_true rfl) rfl ?_
  refine aw_aload_n (x := ad 14 0 0) rfl dX8_leadsTo_0 ?_
  refine aw_iload_n (x := (nI e)) rfl dX8_leadsTo_1 ?_
  refine aw_rV (As := [.int (nI e)]) (S := []) (v := some (.int 1)) (o2 := o) (ct_X8_isOne_some G (lk_nI he g4)) (mm_fit_of cbX8_isOne (by decide) (by decide)) wq961 cvX8_isOne wv14 rfl rfl rfl (Nat.le_of_ble_eq_true rfl) (by decide) (by decide) rfl dX8_leadsTo_2 ?_
  refine aw_if_eq (tgt := 21) (by decide) dX8_leadsTo_5 (fun z => absurd z (by decide)) (fun _ => ?_)
  refine aw_iload_n (x := (nI e)) rfl dX8_leadsTo_8 ?_
  refine aw_iload_n (x := (nI s)) rfl dX8_leadsTo_9 ?_
  refine aw_icmp_eq (tgt := 21) (by decide) dX8_leadsTo_10 (fun b1 => ?_) (fun b1 => ?_)
  · skip
    refine aw_iconst (v := 5) (by decide) dX8_leadsTo_21 ?_
    exact aw_iret rfl (by decide) (by decide) dX8_leadsTo_22 ⟨by (first | with_reducible rfl | (simp [mf_ld, oI, mR, wd_w_row, row_self, row_row, b1]; done) | (simp_all [mf_ld, oI, mR, wd_w_row, row_self, row_row, b1]; done) | (simp only [wd_w_row, row_self, row_row, i32_add0] at *; simp [mf_ld, oI, mR, wd_w_row, row_self, row_row, b1]; done)), by (first | with_reducible rfl | (simp [mf_ld, oI, mR, wd_w_row, row_self, row_row, b1]; done) | (simp_all [mf_ld, oI, mR, wd_w_row, row_self, row_row, b1]; done) | (simp only [wd_w_row, row_self, row_row, i32_add0] at *; simp [mf_ld, oI, mR, wd_w_row, row_self, row_row, b1]; done))⟩
  · skip
    refine aw_aload_n (x := ad 14 0 0) rfl dX8_leadsTo_13 ?_
    refine aw_iload_n (x := (nI e)) rfl dX8_leadsTo_14 ?_
    refine aw_rV (As := [.int (nI e)]) (S := []) (v := some (.int (mf_cut (o.1 8) le e))) (o2 := o) (ct_X8_cut G hle5 (by omega) hee) (mm_fit_of cbX8_cut (by decide) (by decide)) wq993 cvX8_cut wv14 rfl rfl rfl (Nat.le_of_ble_eq_true rfl) (by decide) (by decide) rfl dX8_leadsTo_15 ?_
    refine aw_if_eq (tgt := 23) (by decide) dX8_leadsTo_18 (fun b2 => ?_) (fun b2 => ?_)
    · skip
      refine aw_aload_n (x := ad 14 0 0) rfl dX8_leadsTo_23 ?_
      refine aw_iload_n (x := (nI e)) rfl dX8_leadsTo_24 ?_
      refine aw_iconst (v := 0) (by decide) dX8_leadsTo_25 ?_
      refine aw_rV (As := [.int (nI e), .int 0]) (S := []) (v := some (.int (nI le))) (o2 := o) (RTv (ct_X8_its (s := e) (w := 0) (by omega) (by decide)) hee) (mm_fit_of cbX8_its (by decide) (by decide)) wq949 cvX8_its wv14 rfl rfl rfl (Nat.le_of_ble_eq_true rfl) (by decide) (by decide) rfl dX8_leadsTo_26 ?_
      refine aw_istore_n (L2 := [some (.ref (ad 14 0 0)), some (.int (nI s)), some (.int (nI e)), some (.int (nI le))]) (by decide) rfl rfl dX8_leadsTo_29 ?_
      refine aw_iload_n (x := (nI le)) rfl dX8_leadsTo_30 ?_
      refine aw_aload_n (x := ad 14 0 0) rfl dX8_leadsTo_31 ?_
      refine aw_iload_n (x := (nI s)) rfl dX8_leadsTo_32 ?_
      refine aw_iconst (v := 0) (by decide) dX8_leadsTo_33 ?_
      refine aw_rV (As := [.int (nI s), .int 0]) (S := [.int (nI le)]) (v := some (.int (nI l))) (o2 := o) (RTv (ct_X8_its (s := s) (w := 0) (by omega) (by decide)) hss) (mm_fit_of cbX8_its (by decide) (by decide)) wq949 cvX8_its wv14 rfl rfl rfl (Nat.le_of_ble_eq_true rfl) (by decide) (by decide) rfl dX8_leadsTo_34 ?_
      refine aw_icmp_ne (tgt := 45) (by decide) dX8_leadsTo_37 (fun b3 => ?_) (fun b3 => ?_)
      · skip
        refine aw_aload_n (x := ad 14 0 0) rfl dX8_leadsTo_45 ?_
        refine aw_iload_n (x := (nI le)) rfl dX8_leadsTo_46 ?_
        refine aw_iconst (v := 0) (by decide) dX8_leadsTo_47 ?_
        refine aw_rV (As := [.int (nI le), .int 0]) (S := []) (v := some (.int (o.1 8 (20 * le + 1)))) (o2 := o) (ct_X8_of (l := le) (w := 0) (by omega) (by decide)) (mm_fit_of cbX8_of (by decide) (by decide)) wq969 cvX8_of wv14 rfl rfl rfl (Nat.le_of_ble_eq_true rfl) (by decide) (by decide) rfl dX8_leadsTo_48 ?_
        refine aw_if_ne (tgt := 58) (by decide) dX8_leadsTo_51 (fun b4 => ?_) (fun b4 => ?_)
        · skip
          refine aw_iconst (v := 5) (by decide) dX8_leadsTo_58 ?_
          exact aw_iret rfl (by decide) (by decide) dX8_leadsTo_59 ⟨by (first | with_reducible rfl | (simp [mf_ld, oI, mR, wd_w_row, row_self, row_row, b1, b2, b3, b4]; done) | (simp_all [mf_ld, oI, mR, wd_w_row, row_self, row_row, b1, b2, b3, b4]; done) | (simp only [wd_w_row, row_self, row_row, i32_add0] at *; simp [mf_ld, oI, mR, wd_w_row, row_self, row_row, b1, b2, b3, b4]; done)), by (first | with_reducible rfl | (simp [mf_ld, oI, mR, wd_w_row, row_self, row_row, b1, b2, b3, b4]; done) | (simp_all [mf_ld, oI, mR, wd_w_row, row_self, row_row, b1, b2, b3, b4]; done) | (simp only [wd_w_row, row_self, row_row, i32_add0] at *; simp [mf_ld, oI, mR, wd_w_row, row_self, row_row, b1, b2, b3, b4]; done))⟩
        · skip
          refine aw_iconst (v := 2) (by decide) dX8_leadsTo_54 ?_
          refine aw_goto (tgt := 59) (by decide) dX8_leadsTo_55 ?_
          exact aw_iret rfl (by decide) (by decide) dX8_leadsTo_59 ⟨by (first | with_reducible rfl | (simp [mf_ld, oI, mR, wd_w_row, row_self, row_row, b1, b2, b3, b4]; done) | (simp_all [mf_ld, oI, mR, wd_w_row, row_self, row_row, b1, b2, b3, b4]; done) | (simp only [wd_w_row, row_self, row_row, i32_add0] at *; simp [mf_ld, oI, mR, wd_w_row, row_self, row_row, b1, b2, b3, b4]; done)), by (first | with_reducible rfl | (simp [mf_ld, oI, mR, wd_w_row, row_self, row_row, b1, b2, b3, b4]; done) | (simp_all [mf_ld, oI, mR, wd_w_row, row_self, row_row, b1, b2, b3, b4]; done) | (simp only [wd_w_row, row_self, row_row, i32_add0] at *; simp [mf_ld, oI, mR, wd_w_row, row_self, row_row, b1, b2, b3, b4]; done))⟩
      · skip
        refine aw_bipush (v := 6) (by decide) dX8_leadsTo_40 ?_
        refine aw_goto (tgt := 59) (by decide) dX8_leadsTo_42 ?_
        exact aw_iret rfl (by decide) (by decide) dX8_leadsTo_59 ⟨by (first | with_reducible rfl | (simp [mf_ld, oI, mR, wd_w_row, row_self, row_row, b1, b2, b3]; done) | (simp_all [mf_ld, oI, mR, wd_w_row, row_self, row_row, b1, b2, b3]; done) | (simp only [wd_w_row, row_self, row_row, i32_add0] at *; simp [mf_ld, oI, mR, wd_w_row, row_self, row_row, b1, b2, b3]; done)), by (first | with_reducible rfl | (simp [mf_ld, oI, mR, wd_w_row, row_self, row_row, b1, b2, b3]; done) | (simp_all [mf_ld, oI, mR, wd_w_row, row_self, row_row, b1, b2, b3]; done) | (simp only [wd_w_row, row_self, row_row, i32_add0] at *; simp [mf_ld, oI, mR, wd_w_row, row_self, row_row, b1, b2, b3]; done))⟩
    · skip
      refine aw_iconst (v := 5) (by decide) dX8_leadsTo_21 ?_
      exact aw_iret rfl (by decide) (by decide) dX8_leadsTo_22 ⟨by (first | with_reducible rfl | (simp [mf_ld, oI, mR, wd_w_row, row_self, row_row, b1, b2]; done) | (simp_all [mf_ld, oI, mR, wd_w_row, row_self, row_row, b1, b2]; done) | (simp only [wd_w_row, row_self, row_row, i32_add0] at *; simp [mf_ld, oI, mR, wd_w_row, row_self, row_row, b1, b2]; done)), by (first | with_reducible rfl | (simp [mf_ld, oI, mR, wd_w_row, row_self, row_row, b1, b2]; done) | (simp_all [mf_ld, oI, mR, wd_w_row, row_self, row_row, b1, b2]; done) | (simp only [wd_w_row, row_self, row_row, i32_add0] at *; simp [mf_ld, oI, mR, wd_w_row, row_self, row_row, b1, b2]; done))⟩
def rf_dial (o : wd_S) (m c : Nat) (x y : Int32) : Out := match lk m x with
  | none => mR 1 o
  | some s =>
    let N := o.1 8
    let l := hm N s
    if N (20 * l + 1) = 1 ∧ N (20 * l + 3) = nI s then (match lk m y with
      | none => oI 5 (wd_row (mS o c) 8 (cs_inc (mf_comes N l 5 (nI s) (-1) (-1)) 234))
      | some e =>
        if mf_ld N l s e (hm N e) = 2 then oI (mf_ld N l s e (hm N e)) (wd_row (mS o c) 8 (mf_comes (mf_comes N (hm N e) 3 (nI e) (-1) (nI l)) l 2 (nI s) (-1) (nI (hm N e))))
        else oI (mf_ld N l s e (hm N e)) (wd_row (mS o c) 8 (let N2 := mf_comes N l (mf_ld N l s e (hm N e)) (nI s) (if mf_ld N l s e (hm N e) = 6 then nI e else -1) (-1); upd N2 234 (N2 234 + (if mf_ld N l s e (hm N e) = 5 then 1 else 0)))))
    else mR 2 o
def rf_would (o : wd_S) (m : Nat) (x y : Int32) : Out := match lk m x with
  | none => mR 1 o
  | some s => oI (match lk m y with | none => 5 | some e => mf_ld (o.1 8) (hm (o.1 8) s) s e (hm (o.1 8) e)) (wd_w o 12 1 0)
theorem rt_dial {ad : Nat → Nat → Nat → Nat} {o : wd_S} {n m c : Nat} (V : mv o n m c) {x y : Int32} : CT ad MX8_dial [.ref (ad 14 0 0), .int x, .int y] o (OT (rf_dial o m c x y)) := by
  obtain ⟨G, hk, hc⟩ := id V
  obtain ⟨g1, g2, g3, g4, g5, g6⟩ := id G
  refine CT.of (L := [some (.ref (ad 14 0 0)), some (.int x), some (.int y), none, none, none, none, none]) rfl rfl (by decide) (Nat.le_of_ble_eq_true rfl) rfl ?_
  refine aw_aload_n (x := ad 14 0 0) rfl dX8_dial_0 ?_
  refine aw_iload_n (x := x) rfl dX8_dial_1 ?_
  rcases k1 : lk m x with _ | s
  · skip
    refine aw_rV (As := [.int x]) (S := []) (v := some (.int 0)) (o2 := o) (ct_X8_isOne_none G k1) (mm_fit_of cbX8_isOne (by decide) (by decide)) wq961 cvX8_isOne wv14 rfl rfl rfl (Nat.le_of_ble_eq_true rfl) (by decide) (by decide) rfl dX8_dial_2 ?_
    refine aw_istore_n (L2 := [some (.ref (ad 14 0 0)), some (.int x), some (.int y), some (.int 0), none, none, none, none]) (by decide) rfl rfl dX8_dial_5 ?_
    refine aw_iload_n (x := 0) rfl dX8_dial_6 ?_
    refine aw_if_eq (tgt := 44) (by decide) dX8_dial_7 (fun _ => ?_) (fun z => absurd z (by decide))
    refine aw_iconst (v := 0) (by decide) dX8_dial_44 ?_
    refine aw_istore (L2 := [some (.ref (ad 14 0 0)), some (.int x), some (.int y), some (.int 0), some (.int 0), none, none, none]) (by decide) rfl rfl dX8_dial_45 ?_
    refine aw_aload_n (x := ad 14 0 0) rfl dX8_dial_47 ?_
    refine aw_iload_n (x := 0) rfl dX8_dial_48 ?_
    refine aw_if_ne (tgt := 56) (by decide) dX8_dial_49 (fun z => absurd z (by decide)) (fun _ => ?_)
    refine aw_iconst (v := 1) (by decide) dX8_dial_52 ?_
    refine aw_goto (tgt := 66) (by decide) dX8_dial_53 ?_
    refine aw_rV (As := [.int 1]) (S := []) (v := some (.int 1)) (o2 := (wd_w o 12 1 1)) (ct_refused_p (by decide)) (mm_fit_of cbX8_refused (by decide) (by decide)) wq922 cvX8_refused wv14 rfl rfl rfl (Nat.le_of_ble_eq_true rfl) (by decide) (by decide) rfl dX8_dial_66 ?_
    obtain ⟨o1, ho1⟩ : ∃ z, z = (wd_w o 12 1 1) := ⟨_, rfl⟩
    rw [← ho1]
    have Go1 : cg (o1.1 8) n m := by rw [ho1]; rw [wd_w_row, row_ne _ _ (by decide)]; exact G
    refine aw_if_eq (tgt := 74) (by decide) dX8_dial_69 (fun z => absurd z (by decide)) (fun _ => ?_)
    refine aw_iconst (v := 0) (by decide) dX8_dial_72 ?_
    exact aw_iret rfl (by decide) (by decide) dX8_dial_73 ⟨by (subst ho1; first | with_reducible rfl | (simp [rf_dial, cs_inc, mS, mS_8, oI, mR, oI, mR, wd_w_row, row_self, row_row, k1]; done) | (simp_all [rf_dial, cs_inc, mS, mS_8, oI, mR, oI, mR, wd_w_row, row_self, row_row, k1]; done) | (simp only [wd_w_row, row_self, row_row, i32_add0] at *; simp [rf_dial, cs_inc, mS, mS_8, oI, mR, oI, mR, wd_w_row, row_self, row_row, k1]; done)), by (subst ho1; first | with_reducible rfl | (simp [rf_dial, cs_inc, mS, mS_8, oI, mR, oI, mR, wd_w_row, row_self, row_row, k1]; done) | (simp_all [rf_dial, cs_inc, mS, mS_8, oI, mR, oI, mR, wd_w_row, row_self, row_row, k1]; done) | (simp only [wd_w_row, row_self, row_row, i32_add0] at *; simp [rf_dial, cs_inc, mS, mS_8, oI, mR, oI, mR, wd_w_row, row_self, row_row, k1]; done))⟩
  · skip
    obtain ⟨rfl, k1l⟩ := lk_some k1
    have k1b : s < 16 := by omega
    refine aw_rV (As := [.int (nI s)]) (S := []) (v := some (.int 1)) (o2 := o) (ct_X8_isOne_some G k1) (mm_fit_of cbX8_isOne (by decide) (by decide)) wq961 cvX8_isOne wv14 rfl rfl rfl (Nat.le_of_ble_eq_true rfl) (by decide) (by decide) rfl dX8_dial_2 ?_
    obtain ⟨lh, hlh, hh⟩ := G.2.2.2.2.1 s k1l
    have hlh5 : lh < 5 := by omega
    have hme : hm (o.1 8) s = lh := hm_of hh hlh5
    refine aw_istore_n (L2 := [some (.ref (ad 14 0 0)), some (.int (nI s)), some (.int y), some (.int 1), none, none, none, none]) (by decide) rfl rfl dX8_dial_5 ?_
    refine aw_iload_n (x := 1) rfl dX8_dial_6 ?_
    refine aw_if_eq (tgt := 44) (by decide) dX8_dial_7 (fun z => absurd z (by decide)) (fun _ => ?_)
    refine aw_aload_n (x := ad 14 0 0) rfl dX8_dial_10 ?_
    refine aw_aload_n (x := ad 14 0 0) rfl dX8_dial_11 ?_
    refine aw_iload_n (x := (nI s)) rfl dX8_dial_12 ?_
    refine aw_iconst (v := 0) (by decide) dX8_dial_13 ?_
    refine aw_rV (As := [.int (nI s), .int 0]) (S := [.ref (ad 14 0 0)]) (v := some (.int (nI lh))) (o2 := o) (RTv (ct_X8_its (s := s) (w := 0) (by omega) (by decide)) hh) (mm_fit_of cbX8_its (by decide) (by decide)) wq949 cvX8_its wv14 rfl rfl rfl (Nat.le_of_ble_eq_true rfl) (by decide) (by decide) rfl dX8_dial_14 ?_
    refine aw_iconst (v := 0) (by decide) dX8_dial_17 ?_
    refine aw_rV (As := [.int (nI lh), .int 0]) (S := []) (v := some (.int (o.1 8 (20 * lh + 1)))) (o2 := o) (ct_X8_of (l := lh) (w := 0) (by omega) (by decide)) (mm_fit_of cbX8_of (by decide) (by decide)) wq969 cvX8_of wv14 rfl rfl rfl (Nat.le_of_ble_eq_true rfl) (by decide) (by decide) rfl dX8_dial_18 ?_
    refine aw_iconst (v := 1) (by decide) dX8_dial_21 ?_
    refine aw_icmp_ne (tgt := 44) (by decide) dX8_dial_22 (fun b2 => ?_) (fun b2 => ?_)
    · skip
      refine aw_iconst (v := 0) (by decide) dX8_dial_44 ?_
      refine aw_istore (L2 := [some (.ref (ad 14 0 0)), some (.int (nI s)), some (.int y), some (.int 1), some (.int 0), none, none, none]) (by decide) rfl rfl dX8_dial_45 ?_
      refine aw_aload_n (x := ad 14 0 0) rfl dX8_dial_47 ?_
      refine aw_iload_n (x := 1) rfl dX8_dial_48 ?_
      refine aw_if_ne (tgt := 56) (by decide) dX8_dial_49 (fun _ => ?_) (fun z => absurd z (by decide))
      refine aw_iload (x := 0) rfl dX8_dial_56 ?_
      refine aw_if_ne (tgt := 65) (by decide) dX8_dial_58 (fun z => absurd z (by decide)) (fun _ => ?_)
      refine aw_iconst (v := 2) (by decide) dX8_dial_61 ?_
      refine aw_goto (tgt := 66) (by decide) dX8_dial_62 ?_
      refine aw_rV (As := [.int 2]) (S := []) (v := some (.int 1)) (o2 := (wd_w o 12 1 2)) (ct_refused_p (by decide)) (mm_fit_of cbX8_refused (by decide) (by decide)) wq922 cvX8_refused wv14 rfl rfl rfl (Nat.le_of_ble_eq_true rfl) (by decide) (by decide) rfl dX8_dial_66 ?_
      obtain ⟨o2, ho2⟩ : ∃ z, z = (wd_w o 12 1 2) := ⟨_, rfl⟩
      rw [← ho2]
      have Go2 : cg (o2.1 8) n m := by rw [ho2]; rw [wd_w_row, row_ne _ _ (by decide)]; exact G
      have hho2 : o2.1 8 (101 + 8 * s + 1) = nI lh := by rw [ho2]; rw [wd_w_row, row_ne _ _ (by decide)]; exact hh
      refine aw_if_eq (tgt := 74) (by decide) dX8_dial_69 (fun z => absurd z (by decide)) (fun _ => ?_)
      refine aw_iconst (v := 0) (by decide) dX8_dial_72 ?_
      exact aw_iret rfl (by decide) (by decide) dX8_dial_73 ⟨by (subst ho2; first | with_reducible rfl | (simp [rf_dial, cs_inc, mS, mS_8, oI, mR, oI, mR, wd_w_row, row_self, row_row, k1, hme, b2]; done) | (simp_all [rf_dial, cs_inc, mS, mS_8, oI, mR, oI, mR, wd_w_row, row_self, row_row, k1, hme, b2]; done) | (simp only [wd_w_row, row_self, row_row, i32_add0] at *; simp [rf_dial, cs_inc, mS, mS_8, oI, mR, oI, mR, wd_w_row, row_self, row_row, k1, hme, b2]; done)), by (subst ho2; first | with_reducible rfl | (simp [rf_dial, cs_inc, mS, mS_8, oI, mR, oI, mR, wd_w_row, row_self, row_row, k1, hme, b2]; done) | (simp_all [rf_dial, cs_inc, mS, mS_8, oI, mR, oI, mR, wd_w_row, row_self, row_row, k1, hme, b2]; done) | (simp only [wd_w_row, row_self, row_row, i32_add0] at *; simp [rf_dial, cs_inc, mS, mS_8, oI, mR, oI, mR, wd_w_row, row_self, row_row, k1, hme, b2]; done))⟩
    · skip
      refine aw_aload_n (x := ad 14 0 0) rfl dX8_dial_25 ?_
      refine aw_aload_n (x := ad 14 0 0) rfl dX8_dial_26 ?_
      refine aw_iload_n (x := (nI s)) rfl dX8_dial_27 ?_
      refine aw_iconst (v := 0) (by decide) dX8_dial_28 ?_
      refine aw_rV (As := [.int (nI s), .int 0]) (S := [.ref (ad 14 0 0)]) (v := some (.int (nI lh))) (o2 := o) (RTv (ct_X8_its (s := s) (w := 0) (by omega) (by decide)) hh) (mm_fit_of cbX8_its (by decide) (by decide)) wq949 cvX8_its wv14 rfl rfl rfl (Nat.le_of_ble_eq_true rfl) (by decide) (by decide) rfl dX8_dial_29 ?_
      refine aw_iconst (v := 2) (by decide) dX8_dial_32 ?_
      refine aw_rV (As := [.int (nI lh), .int 2]) (S := []) (v := some (.int (o.1 8 (20 * lh + 3)))) (o2 := o) (ct_X8_of (l := lh) (w := 2) (by omega) (by decide)) (mm_fit_of cbX8_of (by decide) (by decide)) wq969 cvX8_of wv14 rfl rfl rfl (Nat.le_of_ble_eq_true rfl) (by decide) (by decide) rfl dX8_dial_33 ?_
      refine aw_iload_n (x := (nI s)) rfl dX8_dial_36 ?_
      refine aw_icmp_ne (tgt := 44) (by decide) dX8_dial_37 (fun b3 => ?_) (fun b3 => ?_)
      · skip
        refine aw_iconst (v := 0) (by decide) dX8_dial_44 ?_
        refine aw_istore (L2 := [some (.ref (ad 14 0 0)), some (.int (nI s)), some (.int y), some (.int 1), some (.int 0), none, none, none]) (by decide) rfl rfl dX8_dial_45 ?_
        refine aw_aload_n (x := ad 14 0 0) rfl dX8_dial_47 ?_
        refine aw_iload_n (x := 1) rfl dX8_dial_48 ?_
        refine aw_if_ne (tgt := 56) (by decide) dX8_dial_49 (fun _ => ?_) (fun z => absurd z (by decide))
        refine aw_iload (x := 0) rfl dX8_dial_56 ?_
        refine aw_if_ne (tgt := 65) (by decide) dX8_dial_58 (fun z => absurd z (by decide)) (fun _ => ?_)
        refine aw_iconst (v := 2) (by decide) dX8_dial_61 ?_
        refine aw_goto (tgt := 66) (by decide) dX8_dial_62 ?_
        refine aw_rV (As := [.int 2]) (S := []) (v := some (.int 1)) (o2 := (wd_w o 12 1 2)) (ct_refused_p (by decide)) (mm_fit_of cbX8_refused (by decide) (by decide)) wq922 cvX8_refused wv14 rfl rfl rfl (Nat.le_of_ble_eq_true rfl) (by decide) (by decide) rfl dX8_dial_66 ?_
        obtain ⟨o3, ho3⟩ : ∃ z, z = (wd_w o 12 1 2) := ⟨_, rfl⟩
        rw [← ho3]
        have Go3 : cg (o3.1 8) n m := by rw [ho3]; rw [wd_w_row, row_ne _ _ (by decide)]; exact G
        have hho3 : o3.1 8 (101 + 8 * s + 1) = nI lh := by rw [ho3]; rw [wd_w_row, row_ne _ _ (by decide)]; exact hh
        refine aw_if_eq (tgt := 74) (by decide) dX8_dial_69 (fun z => absurd z (by decide)) (fun _ => ?_)
        refine aw_iconst (v := 0) (by decide) dX8_dial_72 ?_
        exact aw_iret rfl (by decide) (by decide) dX8_dial_73 ⟨by (subst ho3; first | with_reducible rfl | (simp [rf_dial, cs_inc, mS, mS_8, oI, mR, oI, mR, wd_w_row, row_self, row_row, k1, hme, b2, b3]; done) | (simp_all [rf_dial, cs_inc, mS, mS_8, oI, mR, oI, mR, wd_w_row, row_self, row_row, k1, hme, b2, b3]; done) | (simp only [wd_w_row, row_self, row_row, i32_add0] at *; simp [rf_dial, cs_inc, mS, mS_8, oI, mR, oI, mR, wd_w_row, row_self, row_row, k1, hme, b2, b3]; done)), by (subst ho3; first | with_reducible rfl | (simp [rf_dial, cs_inc, mS, mS_8, oI, mR, oI, mR, wd_w_row, row_self, row_row, k1, hme, b2, b3]; done) | (simp_all [rf_dial, cs_inc, mS, mS_8, oI, mR, oI, mR, wd_w_row, row_self, row_row, k1, hme, b2, b3]; done) | (simp only [wd_w_row, row_self, row_row, i32_add0] at *; simp [rf_dial, cs_inc, mS, mS_8, oI, mR, oI, mR, wd_w_row, row_self, row_row, k1, hme, b2, b3]; done))⟩
      · skip
        refine aw_iconst (v := 1) (by decide) dX8_dial_40 ?_
        refine aw_goto (tgt := 45) (by decide) dX8_dial_41 ?_
        refine aw_istore (L2 := [some (.ref (ad 14 0 0)), some (.int (nI s)), some (.int y), some (.int 1), some (.int 1), none, none, none]) (by decide) rfl rfl dX8_dial_45 ?_
        refine aw_aload_n (x := ad 14 0 0) rfl dX8_dial_47 ?_
        refine aw_iload_n (x := 1) rfl dX8_dial_48 ?_
        refine aw_if_ne (tgt := 56) (by decide) dX8_dial_49 (fun _ => ?_) (fun z => absurd z (by decide))
        refine aw_iload (x := 1) rfl dX8_dial_56 ?_
        refine aw_if_ne (tgt := 65) (by decide) dX8_dial_58 (fun _ => ?_) (fun z => absurd z (by decide))
        refine aw_iconst (v := 0) (by decide) dX8_dial_65 ?_
        refine aw_rV (As := [.int 0]) (S := []) (v := some (.int 0)) (o2 := (wd_w o 12 1 0)) (ct_refused_0) (mm_fit_of cbX8_refused (by decide) (by decide)) wq922 cvX8_refused wv14 rfl rfl rfl (Nat.le_of_ble_eq_true rfl) (by decide) (by decide) rfl dX8_dial_66 ?_
        obtain ⟨o4, ho4⟩ : ∃ z, z = (wd_w o 12 1 0) := ⟨_, rfl⟩
        rw [← ho4]
        have Go4 : cg (o4.1 8) n m := by rw [ho4]; rw [wd_w_row, row_ne _ _ (by decide)]; exact G
        have hho4 : o4.1 8 (101 + 8 * s + 1) = nI lh := by rw [ho4]; rw [wd_w_row, row_ne _ _ (by decide)]; exact hh
        refine aw_if_eq (tgt := 74) (by decide) dX8_dial_69 (fun _ => ?_) (fun z => absurd z (by decide))
        refine aw_aload_n (x := ad 14 0 0) rfl dX8_dial_74 ?_
        refine aw_rV (As := []) (S := []) (v := none) (o2 := (ms_sv o4 c)) (ct_X8_saves (by rw [ho4, wd_get, if_neg (by decide)]; exact hk) hc) (mm_fit_of cbX8_saves (by decide) (by decide)) wq930 cvX8_saves wv14 rfl rfl rfl (Nat.le_of_ble_eq_true rfl) (by decide) (by decide) rfl dX8_dial_75 ?_
        obtain ⟨o5, ho5⟩ : ∃ z, z = (ms_sv o4 c) := ⟨_, rfl⟩
        rw [← ho5]
        have Go5 : cg (o5.1 8) n m := by rw [ho5]; rw [msv_ne (by decide) (by decide)]; exact Go4
        have hho4o5 : o5.1 8 (101 + 8 * s + 1) = nI lh := by rw [ho5]; rw [msv_ne (by decide) (by decide)]; exact hho4
        refine aw_aload_n (x := ad 14 0 0) rfl dX8_dial_78 ?_
        refine aw_iload_n (x := (nI s)) rfl dX8_dial_79 ?_
        refine aw_iconst (v := 0) (by decide) dX8_dial_80 ?_
        refine aw_rV (As := [.int (nI s), .int 0]) (S := []) (v := some (.int (nI lh))) (o2 := o5) (RTv (ct_X8_its (s := s) (w := 0) (by omega) (by decide)) hho4o5) (mm_fit_of cbX8_its (by decide) (by decide)) wq949 cvX8_its wv14 rfl rfl rfl (Nat.le_of_ble_eq_true rfl) (by decide) (by decide) rfl dX8_dial_81 ?_
        refine aw_istore (L2 := [some (.ref (ad 14 0 0)), some (.int (nI s)), some (.int y), some (.int 1), some (.int 1), some (.int (nI lh)), none, none]) (by decide) rfl rfl dX8_dial_84 ?_
        refine aw_aload_n (x := ad 14 0 0) rfl dX8_dial_86 ?_
        refine aw_iload_n (x := (nI s)) rfl dX8_dial_87 ?_
        refine aw_iload_n (x := y) rfl dX8_dial_88 ?_
        rcases hy : lk m y with _ | e
        · skip
          refine aw_rV (As := [.int (nI s), .int y]) (S := []) (v := some (.int 5)) (o2 := o5) (ct_leads_none Go5 hlh (by omega) hho4o5 hy) (mm_fit_of cbX8_leadsTo (by decide) (by decide)) wq1045 cvX8_leadsTo wv14 rfl rfl rfl (Nat.le_of_ble_eq_true rfl) (by decide) (by decide) rfl dX8_dial_89 ?_
          refine aw_istore (L2 := [some (.ref (ad 14 0 0)), some (.int (nI s)), some (.int y), some (.int 1), some (.int 1), some (.int (nI lh)), some (.int 5), none]) (by decide) rfl rfl dX8_dial_92 ?_
          refine aw_iload (x := 5) rfl dX8_dial_94 ?_
          refine aw_iconst (v := 2) (by decide) dX8_dial_96 ?_
          refine aw_icmp_ne (tgt := 133) (by decide) dX8_dial_97 (fun _ => ?_) (fun z => absurd z (by decide))
          refine aw_aload_n (x := ad 14 0 0) rfl dX8_dial_133 ?_
          refine aw_iload (x := (nI lh)) rfl dX8_dial_134 ?_
          refine aw_iload (x := 5) rfl dX8_dial_136 ?_
          refine aw_iload_n (x := (nI s)) rfl dX8_dial_138 ?_
          refine aw_iload (x := 5) rfl dX8_dial_139 ?_
          refine aw_bipush (v := 6) (by decide) dX8_dial_141 ?_
          refine aw_icmp_ne (tgt := 150) (by decide) dX8_dial_143 (fun _ => ?_) (fun z => absurd z (by decide))
          refine aw_iconst (v := (-1)) (by decide) dX8_dial_150 ?_
          refine aw_iconst (v := (-1)) (by decide) dX8_dial_151 ?_
          refine aw_rV (As := [.int (nI lh), .int 5, .int (nI s), .int (-1), .int (-1)]) (S := []) (v := none) (o2 := (wd_row o5 8 (mf_comes (o5.1 8) lh 5 (nI s) (-1) (-1)))) (ct_X8_comes (by omega)) (mm_fit_of cbX8_comes (by decide) (by decide)) wq1013 cvX8_comes wv14 rfl rfl rfl (Nat.le_of_ble_eq_true rfl) (by decide) (by decide) rfl dX8_dial_152 ?_
          obtain ⟨o6, ho6⟩ : ∃ z, z = (wd_row o5 8 (mf_comes (o5.1 8) lh 5 (nI s) (-1) (-1))) := ⟨_, rfl⟩
          rw [← ho6]
          have Go6 : cg (o6.1 8) n m := by rw [ho6]; rw [row_self]; exact cg_stl (stl_comes (by omega)) Go5
          have hho4o5o6 : o6.1 8 (101 + 8 * s + 1) = nI lh := by rw [ho6]; rw [row_self]; rw [mcomes_ne (by omega)]; exact hho4o5
          refine aw_aload_n (x := ad 14 0 0) rfl dX8_dial_155 ?_
          refine aw_getr (q := (15, 0, 0)) wv14 rfl flX8_7 rfl rfl dX8_dial_156 ?_
          refine aw_sipush (v := 234) (by decide) dX8_dial_159 ?_
          refine aw_dup2 rfl rfl dX8_dial_162 ?_
          refine aw_ild (x := 234) (q := (8, 234)) (y := o6.1 8 234) (by decide) (wv15 (by decide)) rfl rfl (Nat.le_of_ble_eq_true rfl) rfl dX8_dial_163 ?_
          refine aw_iload (x := 5) rfl dX8_dial_164 ?_
          refine aw_iconst (v := 5) (by decide) dX8_dial_166 ?_
          refine aw_icmp_ne (tgt := 174) (by decide) dX8_dial_167 (fun z => absurd z (by decide)) (fun _ => ?_)
          refine aw_iconst (v := 1) (by decide) dX8_dial_170 ?_
          refine aw_goto (tgt := 175) (by decide) dX8_dial_171 ?_
          refine aw_iaddz (z := (o6.1 8 234) + 1) rfl dX8_dial_175 ?_
          refine aw_ist (x := 234) (q := (8, 234)) (y := (o6.1 8 234) + 1) (by decide) (wv15 (by decide)) rfl (Nat.le_of_ble_eq_true rfl) rfl dX8_dial_176 ?_
          refine aw_iload (x := 5) rfl dX8_dial_177 ?_
          exact aw_iret rfl (by decide) (by decide) dX8_dial_179 ⟨by (subst ho6; subst ho5; subst ho4; first | with_reducible rfl | (simp [rf_dial, cs_inc, mS, mS_8, oI, mR, oI, mR, wd_w_row, row_self, row_row, k1, hme, b2, b3, hy]; done) | (simp_all [rf_dial, cs_inc, mS, mS_8, oI, mR, oI, mR, wd_w_row, row_self, row_row, k1, hme, b2, b3, hy]; done) | (simp only [wd_w_row, row_self, row_row, i32_add0] at *; simp [rf_dial, cs_inc, mS, mS_8, oI, mR, oI, mR, wd_w_row, row_self, row_row, k1, hme, b2, b3, hy]; done)), by (subst ho6; subst ho5; subst ho4; first | with_reducible rfl | (simp [rf_dial, cs_inc, mS, mS_8, oI, mR, oI, mR, wd_w_row, row_self, row_row, k1, hme, b2, b3, hy]; done) | (simp_all [rf_dial, cs_inc, mS, mS_8, oI, mR, oI, mR, wd_w_row, row_self, row_row, k1, hme, b2, b3, hy]; done) | (simp only [wd_w_row, row_self, row_row, i32_add0] at *; simp [rf_dial, cs_inc, mS, mS_8, oI, mR, oI, mR, wd_w_row, row_self, row_row, k1, hme, b2, b3, hy]; done))⟩
        · skip
          obtain ⟨rfl, hyl⟩ := lk_some hy
          have he16 : e < 16 := by omega
          obtain ⟨le, hle, hee⟩ := g5 e hyl
          have hle5 : le < 5 := by omega
          have hmy : hm (o.1 8) e = le := hm_of hee hle5
          have hee2 : o5.1 8 (101 + 8 * e + 1) = nI le := by rw [ho5]; rw [msv_ne (by decide) (by decide)]; rw [ho4]; rw [wd_w_row, row_ne _ _ (by decide)]; exact hee
          refine aw_rV (As := [.int (nI s), .int (nI e)]) (S := []) (v := some (.int (mf_ld (o5.1 8) lh s e le))) (o2 := o5) (ct_leads_some Go5 hlh (by omega) hho4o5 hyl hle hee2) (mm_fit_of cbX8_leadsTo (by decide) (by decide)) wq1045 cvX8_leadsTo wv14 rfl rfl rfl (Nat.le_of_ble_eq_true rfl) (by decide) (by decide) rfl dX8_dial_89 ?_
          refine aw_istore (L2 := [some (.ref (ad 14 0 0)), some (.int (nI s)), some (.int (nI e)), some (.int 1), some (.int 1), some (.int (nI lh)), some (.int (mf_ld (o5.1 8) lh s e le)), none]) (by decide) rfl rfl dX8_dial_92 ?_
          refine aw_iload (x := (mf_ld (o5.1 8) lh s e le)) rfl dX8_dial_94 ?_
          refine aw_iconst (v := 2) (by decide) dX8_dial_96 ?_
          refine aw_icmp_ne (tgt := 133) (by decide) dX8_dial_97 (fun b4 => ?_) (fun b4 => ?_)
          · skip
            refine aw_aload_n (x := ad 14 0 0) rfl dX8_dial_133 ?_
            refine aw_iload (x := (nI lh)) rfl dX8_dial_134 ?_
            refine aw_iload (x := (mf_ld (o5.1 8) lh s e le)) rfl dX8_dial_136 ?_
            refine aw_iload_n (x := (nI s)) rfl dX8_dial_138 ?_
            refine aw_iload (x := (mf_ld (o5.1 8) lh s e le)) rfl dX8_dial_139 ?_
            refine aw_bipush (v := 6) (by decide) dX8_dial_141 ?_
            refine aw_icmp_ne (tgt := 150) (by decide) dX8_dial_143 (fun b5 => ?_) (fun b5 => ?_)
            · skip
              refine aw_iconst (v := (-1)) (by decide) dX8_dial_150 ?_
              refine aw_iconst (v := (-1)) (by decide) dX8_dial_151 ?_
              refine aw_rV (As := [.int (nI lh), .int (mf_ld (o5.1 8) lh s e le), .int (nI s), .int (-1), .int (-1)]) (S := []) (v := none) (o2 := (wd_row o5 8 (mf_comes (o5.1 8) lh (mf_ld (o5.1 8) lh s e le) (nI s) (-1) (-1)))) (ct_X8_comes (by omega)) (mm_fit_of cbX8_comes (by decide) (by decide)) wq1013 cvX8_comes wv14 rfl rfl rfl (Nat.le_of_ble_eq_true rfl) (by decide) (by decide) rfl dX8_dial_152 ?_
              obtain ⟨o7, ho7⟩ : ∃ z, z = (wd_row o5 8 (mf_comes (o5.1 8) lh (mf_ld (o5.1 8) lh s e le) (nI s) (-1) (-1))) := ⟨_, rfl⟩
              rw [← ho7]
              have Go7 : cg (o7.1 8) n m := by rw [ho7]; rw [row_self]; exact cg_stl (stl_comes (by omega)) Go5
              have hho4o5o7 : o7.1 8 (101 + 8 * s + 1) = nI lh := by rw [ho7]; rw [row_self]; rw [mcomes_ne (by omega)]; exact hho4o5
              have hee2o7 : o7.1 8 (101 + 8 * e + 1) = nI le := by rw [ho7]; rw [row_self]; rw [mcomes_ne (by omega)]; exact hee2
              refine aw_aload_n (x := ad 14 0 0) rfl dX8_dial_155 ?_
              refine aw_getr (q := (15, 0, 0)) wv14 rfl flX8_7 rfl rfl dX8_dial_156 ?_
              refine aw_sipush (v := 234) (by decide) dX8_dial_159 ?_
              refine aw_dup2 rfl rfl dX8_dial_162 ?_
              refine aw_ild (x := 234) (q := (8, 234)) (y := o7.1 8 234) (by decide) (wv15 (by decide)) rfl rfl (Nat.le_of_ble_eq_true rfl) rfl dX8_dial_163 ?_
              refine aw_iload (x := (mf_ld (o5.1 8) lh s e le)) rfl dX8_dial_164 ?_
              refine aw_iconst (v := 5) (by decide) dX8_dial_166 ?_
              refine aw_icmp_ne (tgt := 174) (by decide) dX8_dial_167 (fun b6 => ?_) (fun b6 => ?_)
              · skip
                refine aw_iconst (v := 0) (by decide) dX8_dial_174 ?_
                refine aw_iaddz (z := (o7.1 8 234) + 0) rfl dX8_dial_175 ?_
                refine aw_ist (x := 234) (q := (8, 234)) (y := (o7.1 8 234) + 0) (by decide) (wv15 (by decide)) rfl (Nat.le_of_ble_eq_true rfl) rfl dX8_dial_176 ?_
                refine aw_iload (x := (mf_ld (o5.1 8) lh s e le)) rfl dX8_dial_177 ?_
                exact aw_iret rfl (by decide) (by decide) dX8_dial_179 ⟨by (subst ho7; subst ho5; subst ho4; first | with_reducible rfl | (simp [rf_dial, cs_inc, mS, mS_8, oI, mR, oI, mR, wd_w_row, row_self, row_row, k1, hme, b2, b3, hy, hmy, b4, b5, b6]; done) | (simp_all [rf_dial, cs_inc, mS, mS_8, oI, mR, oI, mR, wd_w_row, row_self, row_row, k1, hme, b2, b3, hy, hmy, b4, b5, b6]; done) | (simp only [wd_w_row, row_self, row_row, i32_add0] at *; simp [rf_dial, cs_inc, mS, mS_8, oI, mR, oI, mR, wd_w_row, row_self, row_row, k1, hme, b2, b3, hy, hmy, b4, b5, b6]; done)), by (subst ho7; subst ho5; subst ho4; first | with_reducible rfl | (simp [rf_dial, cs_inc, mS, mS_8, oI, mR, oI, mR, wd_w_row, row_self, row_row, k1, hme, b2, b3, hy, hmy, b4, b5, b6]; done) | (simp_all [rf_dial, cs_inc, mS, mS_8, oI, mR, oI, mR, wd_w_row, row_self, row_row, k1, hme, b2, b3, hy, hmy, b4, b5, b6]; done) | (simp only [wd_w_row, row_self, row_row, i32_add0] at *; simp [rf_dial, cs_inc, mS, mS_8, oI, mR, oI, mR, wd_w_row, row_self, row_row, k1, hme, b2, b3, hy, hmy, b4, b5, b6]; done))⟩
              · skip
                refine aw_iconst (v := 1) (by decide) dX8_dial_170 ?_
                refine aw_goto (tgt := 175) (by decide) dX8_dial_171 ?_
                refine aw_iaddz (z := (o7.1 8 234) + 1) rfl dX8_dial_175 ?_
                refine aw_ist (x := 234) (q := (8, 234)) (y := (o7.1 8 234) + 1) (by decide) (wv15 (by decide)) rfl (Nat.le_of_ble_eq_true rfl) rfl dX8_dial_176 ?_
                refine aw_iload (x := (mf_ld (o5.1 8) lh s e le)) rfl dX8_dial_177 ?_
                exact aw_iret rfl (by decide) (by decide) dX8_dial_179 ⟨by (subst ho7; subst ho5; subst ho4; first | with_reducible rfl | (simp [rf_dial, cs_inc, mS, mS_8, oI, mR, oI, mR, wd_w_row, row_self, row_row, k1, hme, b2, b3, hy, hmy, b4, b5, b6]; done) | (simp_all [rf_dial, cs_inc, mS, mS_8, oI, mR, oI, mR, wd_w_row, row_self, row_row, k1, hme, b2, b3, hy, hmy, b4, b5, b6]; done) | (simp only [wd_w_row, row_self, row_row, i32_add0] at *; simp [rf_dial, cs_inc, mS, mS_8, oI, mR, oI, mR, wd_w_row, row_self, row_row, k1, hme, b2, b3, hy, hmy, b4, b5, b6]; done)), by (subst ho7; subst ho5; subst ho4; first | with_reducible rfl | (simp [rf_dial, cs_inc, mS, mS_8, oI, mR, oI, mR, wd_w_row, row_self, row_row, k1, hme, b2, b3, hy, hmy, b4, b5, b6]; done) | (simp_all [rf_dial, cs_inc, mS, mS_8, oI, mR, oI, mR, wd_w_row, row_self, row_row, k1, hme, b2, b3, hy, hmy, b4, b5, b6]; done) | (simp only [wd_w_row, row_self, row_row, i32_add0] at *; simp [rf_dial, cs_inc, mS, mS_8, oI, mR, oI, mR, wd_w_row, row_self, row_row, k1, hme, b2, b3, hy, hmy, b4, b5, b6]; done))⟩
            · skip
              refine aw_iload_n (x := (nI e)) rfl dX8_dial_146 ?_
              refine aw_goto (tgt := 151) (by decide) dX8_dial_147 ?_
              refine aw_iconst (v := (-1)) (by decide) dX8_dial_151 ?_
              refine aw_rV (As := [.int (nI lh), .int (mf_ld (o5.1 8) lh s e le), .int (nI s), .int (nI e), .int (-1)]) (S := []) (v := none) (o2 := (wd_row o5 8 (mf_comes (o5.1 8) lh (mf_ld (o5.1 8) lh s e le) (nI s) (nI e) (-1)))) (ct_X8_comes (by omega)) (mm_fit_of cbX8_comes (by decide) (by decide)) wq1013 cvX8_comes wv14 rfl rfl rfl (Nat.le_of_ble_eq_true rfl) (by decide) (by decide) rfl dX8_dial_152 ?_
              obtain ⟨o8, ho8⟩ : ∃ z, z = (wd_row o5 8 (mf_comes (o5.1 8) lh (mf_ld (o5.1 8) lh s e le) (nI s) (nI e) (-1))) := ⟨_, rfl⟩
              rw [← ho8]
              have Go8 : cg (o8.1 8) n m := by rw [ho8]; rw [row_self]; exact cg_stl (stl_comes (by omega)) Go5
              have hho4o5o8 : o8.1 8 (101 + 8 * s + 1) = nI lh := by rw [ho8]; rw [row_self]; rw [mcomes_ne (by omega)]; exact hho4o5
              have hee2o8 : o8.1 8 (101 + 8 * e + 1) = nI le := by rw [ho8]; rw [row_self]; rw [mcomes_ne (by omega)]; exact hee2
              refine aw_aload_n (x := ad 14 0 0) rfl dX8_dial_155 ?_
              refine aw_getr (q := (15, 0, 0)) wv14 rfl flX8_7 rfl rfl dX8_dial_156 ?_
              refine aw_sipush (v := 234) (by decide) dX8_dial_159 ?_
              refine aw_dup2 rfl rfl dX8_dial_162 ?_
              refine aw_ild (x := 234) (q := (8, 234)) (y := o8.1 8 234) (by decide) (wv15 (by decide)) rfl rfl (Nat.le_of_ble_eq_true rfl) rfl dX8_dial_163 ?_
              refine aw_iload (x := (mf_ld (o5.1 8) lh s e le)) rfl dX8_dial_164 ?_
              refine aw_iconst (v := 5) (by decide) dX8_dial_166 ?_
              refine aw_icmp_ne (tgt := 174) (by decide) dX8_dial_167 (fun b7 => ?_) (fun b7 => ?_)
              · skip
                refine aw_iconst (v := 0) (by decide) dX8_dial_174 ?_
                refine aw_iaddz (z := (o8.1 8 234) + 0) rfl dX8_dial_175 ?_
                refine aw_ist (x := 234) (q := (8, 234)) (y := (o8.1 8 234) + 0) (by decide) (wv15 (by decide)) rfl (Nat.le_of_ble_eq_true rfl) rfl dX8_dial_176 ?_
                refine aw_iload (x := (mf_ld (o5.1 8) lh s e le)) rfl dX8_dial_177 ?_
                exact aw_iret rfl (by decide) (by decide) dX8_dial_179 ⟨by (subst ho8; subst ho5; subst ho4; first | with_reducible rfl | (simp [rf_dial, cs_inc, mS, mS_8, oI, mR, oI, mR, wd_w_row, row_self, row_row, k1, hme, b2, b3, hy, hmy, b4, b5, b7]; done) | (simp_all [rf_dial, cs_inc, mS, mS_8, oI, mR, oI, mR, wd_w_row, row_self, row_row, k1, hme, b2, b3, hy, hmy, b4, b5, b7]; done) | (simp only [wd_w_row, row_self, row_row, i32_add0] at *; simp [rf_dial, cs_inc, mS, mS_8, oI, mR, oI, mR, wd_w_row, row_self, row_row, k1, hme, b2, b3, hy, hmy, b4, b5, b7]; done)), by (subst ho8; subst ho5; subst ho4; first | with_reducible rfl | (simp [rf_dial, cs_inc, mS, mS_8, oI, mR, oI, mR, wd_w_row, row_self, row_row, k1, hme, b2, b3, hy, hmy, b4, b5, b7]; done) | (simp_all [rf_dial, cs_inc, mS, mS_8, oI, mR, oI, mR, wd_w_row, row_self, row_row, k1, hme, b2, b3, hy, hmy, b4, b5, b7]; done) | (simp only [wd_w_row, row_self, row_row, i32_add0] at *; simp [rf_dial, cs_inc, mS, mS_8, oI, mR, oI, mR, wd_w_row, row_self, row_row, k1, hme, b2, b3, hy, hmy, b4, b5, b7]; done))⟩
              · skip
                refine aw_iconst (v := 1) (by decide) dX8_dial_170 ?_
                refine aw_goto (tgt := 175) (by decide) dX8_dial_171 ?_
                refine aw_iaddz (z := (o8.1 8 234) + 1) rfl dX8_dial_175 ?_
                refine aw_ist (x := 234) (q := (8, 234)) (y := (o8.1 8 234) + 1) (by decide) (wv15 (by decide)) rfl (Nat.le_of_ble_eq_true rfl) rfl dX8_dial_176 ?_
                refine aw_iload (x := (mf_ld (o5.1 8) lh s e le)) rfl dX8_dial_177 ?_
                exact aw_iret rfl (by decide) (by decide) dX8_dial_179 ⟨by (subst ho8; subst ho5; subst ho4; first | with_reducible rfl | (simp [rf_dial, cs_inc, mS, mS_8, oI, mR, oI, mR, wd_w_row, row_self, row_row, k1, hme, b2, b3, hy, hmy, b4, b5, b7]; done) | (simp_all [rf_dial, cs_inc, mS, mS_8, oI, mR, oI, mR, wd_w_row, row_self, row_row, k1, hme, b2, b3, hy, hmy, b4, b5, b7]; done) | (simp only [wd_w_row, row_self, row_row, i32_add0] at *; simp [rf_dial, cs_inc, mS, mS_8, oI, mR, oI, mR, wd_w_row, row_self, row_row, k1, hme, b2, b3, hy, hmy, b4, b5, b7]; done)), by (subst ho8; subst ho5; subst ho4; first | with_reducible rfl | (simp [rf_dial, cs_inc, mS, mS_8, oI, mR, oI, mR, wd_w_row, row_self, row_row, k1, hme, b2, b3, hy, hmy, b4, b5, b7]; done) | (simp_all [rf_dial, cs_inc, mS, mS_8, oI, mR, oI, mR, wd_w_row, row_self, row_row, k1, hme, b2, b3, hy, hmy, b4, b5, b7]; done) | (simp only [wd_w_row, row_self, row_row, i32_add0] at *; simp [rf_dial, cs_inc, mS, mS_8, oI, mR, oI, mR, wd_w_row, row_self, row_row, k1, hme, b2, b3, hy, hmy, b4, b5, b7]; done))⟩
          · skip
            refine aw_aload_n (x := ad 14 0 0) rfl dX8_dial_100 ?_
            refine aw_iload_n (x := (nI e)) rfl dX8_dial_101 ?_
            refine aw_iconst (v := 0) (by decide) dX8_dial_102 ?_
            refine aw_rV (As := [.int (nI e), .int 0]) (S := []) (v := some (.int (nI le))) (o2 := o5) (RTv (ct_X8_its (s := e) (w := 0) (by omega) (by decide)) hee2) (mm_fit_of cbX8_its (by decide) (by decide)) wq949 cvX8_its wv14 rfl rfl rfl (Nat.le_of_ble_eq_true rfl) (by decide) (by decide) rfl dX8_dial_103 ?_
            refine aw_istore (L2 := [some (.ref (ad 14 0 0)), some (.int (nI s)), some (.int (nI e)), some (.int 1), some (.int 1), some (.int (nI lh)), some (.int (mf_ld (o5.1 8) lh s e le)), some (.int (nI le))]) (by decide) rfl rfl dX8_dial_106 ?_
            refine aw_aload_n (x := ad 14 0 0) rfl dX8_dial_108 ?_
            refine aw_iload (x := (nI le)) rfl dX8_dial_109 ?_
            refine aw_iconst (v := 3) (by decide) dX8_dial_111 ?_
            refine aw_iload_n (x := (nI e)) rfl dX8_dial_112 ?_
            refine aw_iconst (v := (-1)) (by decide) dX8_dial_113 ?_
            refine aw_iload (x := (nI lh)) rfl dX8_dial_114 ?_
            refine aw_rV (As := [.int (nI le), .int 3, .int (nI e), .int (-1), .int (nI lh)]) (S := []) (v := none) (o2 := (wd_row o5 8 (mf_comes (o5.1 8) le 3 (nI e) (-1) (nI lh)))) (ct_X8_comes (by omega)) (mm_fit_of cbX8_comes (by decide) (by decide)) wq1013 cvX8_comes wv14 rfl rfl rfl (Nat.le_of_ble_eq_true rfl) (by decide) (by decide) rfl dX8_dial_116 ?_
            obtain ⟨o9, ho9⟩ : ∃ z, z = (wd_row o5 8 (mf_comes (o5.1 8) le 3 (nI e) (-1) (nI lh))) := ⟨_, rfl⟩
            rw [← ho9]
            have Go9 : cg (o9.1 8) n m := by rw [ho9]; rw [row_self]; exact cg_stl (stl_comes (by omega)) Go5
            have hho4o5o9 : o9.1 8 (101 + 8 * s + 1) = nI lh := by rw [ho9]; rw [row_self]; rw [mcomes_ne (by omega)]; exact hho4o5
            have hee2o9 : o9.1 8 (101 + 8 * e + 1) = nI le := by rw [ho9]; rw [row_self]; rw [mcomes_ne (by omega)]; exact hee2
            refine aw_aload_n (x := ad 14 0 0) rfl dX8_dial_119 ?_
            refine aw_iload (x := (nI lh)) rfl dX8_dial_120 ?_
            refine aw_iconst (v := 2) (by decide) dX8_dial_122 ?_
            refine aw_iload_n (x := (nI s)) rfl dX8_dial_123 ?_
            refine aw_iconst (v := (-1)) (by decide) dX8_dial_124 ?_
            refine aw_iload (x := (nI le)) rfl dX8_dial_125 ?_
            refine aw_rV (As := [.int (nI lh), .int 2, .int (nI s), .int (-1), .int (nI le)]) (S := []) (v := none) (o2 := (wd_row o9 8 (mf_comes (o9.1 8) lh 2 (nI s) (-1) (nI le)))) (ct_X8_comes (by omega)) (mm_fit_of cbX8_comes (by decide) (by decide)) wq1013 cvX8_comes wv14 rfl rfl rfl (Nat.le_of_ble_eq_true rfl) (by decide) (by decide) rfl dX8_dial_127 ?_
            obtain ⟨o10, ho10⟩ : ∃ z, z = (wd_row o9 8 (mf_comes (o9.1 8) lh 2 (nI s) (-1) (nI le))) := ⟨_, rfl⟩
            rw [← ho10]
            have Go10 : cg (o10.1 8) n m := by rw [ho10]; rw [row_self]; exact cg_stl (stl_comes (by omega)) Go9
            have hho4o5o9o10 : o10.1 8 (101 + 8 * s + 1) = nI lh := by rw [ho10]; rw [row_self]; rw [mcomes_ne (by omega)]; exact hho4o5o9
            have hee2o9o10 : o10.1 8 (101 + 8 * e + 1) = nI le := by rw [ho10]; rw [row_self]; rw [mcomes_ne (by omega)]; exact hee2o9
            refine aw_goto (tgt := 177) (by decide) dX8_dial_130 ?_
            refine aw_iload (x := (mf_ld (o5.1 8) lh s e le)) rfl dX8_dial_177 ?_
            exact aw_iret rfl (by decide) (by decide) dX8_dial_179 ⟨by (subst ho10; subst ho9; subst ho5; subst ho4; first | with_reducible rfl | (simp [rf_dial, cs_inc, mS, mS_8, oI, mR, oI, mR, wd_w_row, row_self, row_row, k1, hme, b2, b3, hy, hmy, b4]; done) | (simp_all [rf_dial, cs_inc, mS, mS_8, oI, mR, oI, mR, wd_w_row, row_self, row_row, k1, hme, b2, b3, hy, hmy, b4]; done) | (simp only [wd_w_row, row_self, row_row, i32_add0] at *; simp [rf_dial, cs_inc, mS, mS_8, oI, mR, oI, mR, wd_w_row, row_self, row_row, k1, hme, b2, b3, hy, hmy, b4]; done)), by (subst ho10; subst ho9; subst ho5; subst ho4; first | with_reducible rfl | (simp [rf_dial, cs_inc, mS, mS_8, oI, mR, oI, mR, wd_w_row, row_self, row_row, k1, hme, b2, b3, hy, hmy, b4]; done) | (simp_all [rf_dial, cs_inc, mS, mS_8, oI, mR, oI, mR, wd_w_row, row_self, row_row, k1, hme, b2, b3, hy, hmy, b4]; done) | (simp only [wd_w_row, row_self, row_row, i32_add0] at *; simp [rf_dial, cs_inc, mS, mS_8, oI, mR, oI, mR, wd_w_row, row_self, row_row, k1, hme, b2, b3, hy, hmy, b4]; done))⟩
theorem rt_would {ad : Nat → Nat → Nat → Nat} {o : wd_S} {n m c : Nat} (V : mv o n m c) {x y : Int32} : CT ad MX8_wouldDial [.ref (ad 14 0 0), .int x, .int y] o (OT (rf_would o m x y)) := by
  obtain ⟨G, hk, hc⟩ := id V
  obtain ⟨g1, g2, g3, g4, g5, g6⟩ := id G
  refine CT.of (L := [some (.ref (ad 14 0 0)), some (.int x), some (.int y)]) rfl rfl (by decide) (Nat.le_of_ble_eq_true rfl) rfl ?_
  refine aw_aload_n (x := ad 14 0 0) rfl dX8_wouldDial_0 ?_
  refine aw_aload_n (x := ad 14 0 0) rfl dX8_wouldDial_1 ?_
  refine aw_aload_n (x := ad 14 0 0) rfl dX8_wouldDial_2 ?_
  refine aw_iload_n (x := x) rfl dX8_wouldDial_3 ?_
  rcases k1 : lk m x with _ | s
  · skip
    refine aw_rV (As := [.int x]) (S := [.ref (ad 14 0 0), .ref (ad 14 0 0)]) (v := some (.int 0)) (o2 := o) (ct_X8_isOne_none G k1) (mm_fit_of cbX8_isOne (by decide) (by decide)) wq961 cvX8_isOne wv14 rfl rfl rfl (Nat.le_of_ble_eq_true rfl) (by decide) (by decide) rfl dX8_wouldDial_4 ?_
    refine aw_rV (As := [.int 0]) (S := [.ref (ad 14 0 0)]) (v := some (.int 1)) (o2 := o) (ct_need_0) (mm_fit_of cbX8_need (by decide) (by decide)) wq1053 cvX8_need wv14 rfl rfl rfl (Nat.le_of_ble_eq_true rfl) (by decide) (by decide) rfl dX8_wouldDial_7 ?_
    refine aw_rV (As := [.int 1]) (S := []) (v := some (.int 1)) (o2 := (wd_w o 12 1 1)) (ct_refused_p (by decide)) (mm_fit_of cbX8_refused (by decide) (by decide)) wq922 cvX8_refused wv14 rfl rfl rfl (Nat.le_of_ble_eq_true rfl) (by decide) (by decide) rfl dX8_wouldDial_10 ?_
    obtain ⟨o1, ho1⟩ : ∃ z, z = (wd_w o 12 1 1) := ⟨_, rfl⟩
    rw [← ho1]
    have Go1 : cg (o1.1 8) n m := by rw [ho1]; rw [wd_w_row, row_ne _ _ (by decide)]; exact G
    refine aw_if_eq (tgt := 20) (by decide) dX8_wouldDial_13 (fun z => absurd z (by decide)) (fun _ => ?_)
    refine aw_iconst (v := 0) (by decide) dX8_wouldDial_16 ?_
    refine aw_goto (tgt := 26) (by decide) dX8_wouldDial_17 ?_
    exact aw_iret rfl (by decide) (by decide) dX8_wouldDial_26 ⟨by (subst ho1; first | with_reducible rfl | (simp [rf_would, row_ne _ _ (show (8 : Nat) ≠ 12 by decide), mS, mS_8, oI, mR, oI, mR, wd_w_row, row_self, row_row, k1]; done) | (simp_all [rf_would, row_ne _ _ (show (8 : Nat) ≠ 12 by decide), mS, mS_8, oI, mR, oI, mR, wd_w_row, row_self, row_row, k1]; done) | (simp only [wd_w_row, row_self, row_row, i32_add0] at *; simp [rf_would, row_ne _ _ (show (8 : Nat) ≠ 12 by decide), mS, mS_8, oI, mR, oI, mR, wd_w_row, row_self, row_row, k1]; done)), by (subst ho1; first | with_reducible rfl | (simp [rf_would, row_ne _ _ (show (8 : Nat) ≠ 12 by decide), mS, mS_8, oI, mR, oI, mR, wd_w_row, row_self, row_row, k1]; done) | (simp_all [rf_would, row_ne _ _ (show (8 : Nat) ≠ 12 by decide), mS, mS_8, oI, mR, oI, mR, wd_w_row, row_self, row_row, k1]; done) | (simp only [wd_w_row, row_self, row_row, i32_add0] at *; simp [rf_would, row_ne _ _ (show (8 : Nat) ≠ 12 by decide), mS, mS_8, oI, mR, oI, mR, wd_w_row, row_self, row_row, k1]; done))⟩
  · skip
    obtain ⟨rfl, k1l⟩ := lk_some k1
    have k1b : s < 16 := by omega
    refine aw_rV (As := [.int (nI s)]) (S := [.ref (ad 14 0 0), .ref (ad 14 0 0)]) (v := some (.int 1)) (o2 := o) (ct_X8_isOne_some G k1) (mm_fit_of cbX8_isOne (by decide) (by decide)) wq961 cvX8_isOne wv14 rfl rfl rfl (Nat.le_of_ble_eq_true rfl) (by decide) (by decide) rfl dX8_wouldDial_4 ?_
    obtain ⟨lh, hlh, hh⟩ := G.2.2.2.2.1 s k1l
    have hlh5 : lh < 5 := by omega
    have hme : hm (o.1 8) s = lh := hm_of hh hlh5
    refine aw_rV (As := [.int 1]) (S := [.ref (ad 14 0 0)]) (v := some (.int 0)) (o2 := o) (ct_need_1) (mm_fit_of cbX8_need (by decide) (by decide)) wq1053 cvX8_need wv14 rfl rfl rfl (Nat.le_of_ble_eq_true rfl) (by decide) (by decide) rfl dX8_wouldDial_7 ?_
    refine aw_rV (As := [.int 0]) (S := []) (v := some (.int 0)) (o2 := (wd_w o 12 1 0)) (ct_refused_0) (mm_fit_of cbX8_refused (by decide) (by decide)) wq922 cvX8_refused wv14 rfl rfl rfl (Nat.le_of_ble_eq_true rfl) (by decide) (by decide) rfl dX8_wouldDial_10 ?_
    obtain ⟨o2, ho2⟩ : ∃ z, z = (wd_w o 12 1 0) := ⟨_, rfl⟩
    rw [← ho2]
    have Go2 : cg (o2.1 8) n m := by rw [ho2]; rw [wd_w_row, row_ne _ _ (by decide)]; exact G
    have hho2 : o2.1 8 (101 + 8 * s + 1) = nI lh := by rw [ho2]; rw [wd_w_row, row_ne _ _ (by decide)]; exact hh
    refine aw_if_eq (tgt := 20) (by decide) dX8_wouldDial_13 (fun _ => ?_) (fun z => absurd z (by decide))
    refine aw_aload_n (x := ad 14 0 0) rfl dX8_wouldDial_20 ?_
    refine aw_iload_n (x := (nI s)) rfl dX8_wouldDial_21 ?_
    refine aw_iload_n (x := y) rfl dX8_wouldDial_22 ?_
    rcases hy : lk m y with _ | e
    · skip
      refine aw_rV (As := [.int (nI s), .int y]) (S := []) (v := some (.int 5)) (o2 := o2) (ct_leads_none Go2 hlh (by omega) hho2 hy) (mm_fit_of cbX8_leadsTo (by decide) (by decide)) wq1045 cvX8_leadsTo wv14 rfl rfl rfl (Nat.le_of_ble_eq_true rfl) (by decide) (by decide) rfl dX8_wouldDial_23 ?_
      exact aw_iret rfl (by decide) (by decide) dX8_wouldDial_26 ⟨by (subst ho2; first | with_reducible rfl | (simp [rf_would, row_ne _ _ (show (8 : Nat) ≠ 12 by decide), mS, mS_8, oI, mR, oI, mR, wd_w_row, row_self, row_row, k1, hme, hy]; done) | (simp_all [rf_would, row_ne _ _ (show (8 : Nat) ≠ 12 by decide), mS, mS_8, oI, mR, oI, mR, wd_w_row, row_self, row_row, k1, hme, hy]; done) | (simp only [wd_w_row, row_self, row_row, i32_add0] at *; simp [rf_would, row_ne _ _ (show (8 : Nat) ≠ 12 by decide), mS, mS_8, oI, mR, oI, mR, wd_w_row, row_self, row_row, k1, hme, hy]; done)), by (subst ho2; first | with_reducible rfl | (simp [rf_would, row_ne _ _ (show (8 : Nat) ≠ 12 by decide), mS, mS_8, oI, mR, oI, mR, wd_w_row, row_self, row_row, k1, hme, hy]; done) | (simp_all [rf_would, row_ne _ _ (show (8 : Nat) ≠ 12 by decide), mS, mS_8, oI, mR, oI, mR, wd_w_row, row_self, row_row, k1, hme, hy]; done) | (simp only [wd_w_row, row_self, row_row, i32_add0] at *; simp [rf_would, row_ne _ _ (show (8 : Nat) ≠ 12 by decide), mS, mS_8, oI, mR, oI, mR, wd_w_row, row_self, row_row, k1, hme, hy]; done))⟩
    · skip
      obtain ⟨rfl, hyl⟩ := lk_some hy
      have he16 : e < 16 := by omega
      obtain ⟨le, hle, hee⟩ := g5 e hyl
      have hle5 : le < 5 := by omega
      have hmy : hm (o.1 8) e = le := hm_of hee hle5
      have hee2 : o2.1 8 (101 + 8 * e + 1) = nI le := by rw [ho2]; rw [wd_w_row, row_ne _ _ (by decide)]; exact hee
      refine aw_rV (As := [.int (nI s), .int (nI e)]) (S := []) (v := some (.int (mf_ld (o2.1 8) lh s e le))) (o2 := o2) (ct_leads_some Go2 hlh (by omega) hho2 hyl hle hee2) (mm_fit_of cbX8_leadsTo (by decide) (by decide)) wq1045 cvX8_leadsTo wv14 rfl rfl rfl (Nat.le_of_ble_eq_true rfl) (by decide) (by decide) rfl dX8_wouldDial_23 ?_
      exact aw_iret rfl (by decide) (by decide) dX8_wouldDial_26 ⟨by (subst ho2; first | with_reducible rfl | (simp [rf_would, row_ne _ _ (show (8 : Nat) ≠ 12 by decide), mS, mS_8, oI, mR, oI, mR, wd_w_row, row_self, row_row, k1, hme, hy, hmy]; done) | (simp_all [rf_would, row_ne _ _ (show (8 : Nat) ≠ 12 by decide), mS, mS_8, oI, mR, oI, mR, wd_w_row, row_self, row_row, k1, hme, hy, hmy]; done) | (simp only [wd_w_row, row_self, row_row, i32_add0] at *; simp [rf_would, row_ne _ _ (show (8 : Nat) ≠ 12 by decide), mS, mS_8, oI, mR, oI, mR, wd_w_row, row_self, row_row, k1, hme, hy, hmy]; done)), by (subst ho2; first | with_reducible rfl | (simp [rf_would, row_ne _ _ (show (8 : Nat) ≠ 12 by decide), mS, mS_8, oI, mR, oI, mR, wd_w_row, row_self, row_row, k1, hme, hy, hmy]; done) | (simp_all [rf_would, row_ne _ _ (show (8 : Nat) ≠ 12 by decide), mS, mS_8, oI, mR, oI, mR, wd_w_row, row_self, row_row, k1, hme, hy, hmy]; done) | (simp only [wd_w_row, row_self, row_row, i32_add0] at *; simp [rf_would, row_ne _ _ (show (8 : Nat) ≠ 12 by decide), mS, mS_8, oI, mR, oI, mR, wd_w_row, row_self, row_row, k1, hme, hy, hmy]; done))⟩
