def cs_hang (B : Nat → Int32) (n m l s : Nat) : Nat → Int32 :=
  let B1 := upd (upd B (101 + 8 * s + 6) 0) (101 + 8 * s + 7) 0
  if cs_party B l s = 0 then B1 else if B1 (20 * l + 1) = 6 then (if cs_low B1 m l = -1 then cs_comeTo B1 l 7 else cs_end B1 n m l) else cs_end B1 n m l
theorem ct_X1_hangUp {ad : Nat → Nat → Nat → Nat} {o : wd_S} {n m l s : Nat} (G : cg (o.1 0) n m) (hl : l < n) (hs : s < m) (hh : o.1 0 (101 + 8 * s + 1) = nI l) : CT ad MX1_hangUp [.ref (ad 8 0 0), .ref (ad 3 0 s)] o (RT none (wd_row o 0 (cs_hang (o.1 0) n m l s))) := by
  obtain ⟨g1, g2, g3, g4, g5, g6⟩ := id G
  have hl5 : l < 5 := by omega
  have hs16 : s < 16 := by omega
  refine CT.of (L := [some (.ref (ad 8 0 0)), some (.ref (ad 3 0 s)), none, none]) rfl rfl (by decide) (Nat.le_of_ble_eq_true rfl) rfl ?_
  refine aw_aload_n (x := ad 8 0 0) rfl dX1_hangUp_0 ?_
  refine aw_getr (q := (0, 0, 0)) wv8 rfl flX1_9 rfl rfl dX1_hangUp_1 ?_
  refine aw_aload_n (x := ad 3 0 s) rfl dX1_hangUp_4 ?_
  refine aw_rV (As := [.ref (ad 3 0 s)]) (S := []) (v := some (.int (cs_party (o.1 0) l s))) (o2 := o) (ct_X5_isParty G hl hs hh) (mm_fit_of cbX5_isParty (by decide) (by decide)) wq607 cvX5_isParty (wv0 (by decide)) rfl rfl rfl (Nat.le_of_ble_eq_true rfl) (by decide) (by decide) rfl dX1_hangUp_5 ?_
  refine aw_istore_n (L2 := [some (.ref (ad 8 0 0)), some (.ref (ad 3 0 s)), some (.int (cs_party (o.1 0) l s)), none]) (by decide) rfl rfl dX1_hangUp_8 ?_
  refine aw_aload_n (x := ad 3 0 s) rfl dX1_hangUp_9 ?_
  refine aw_iconst (v := 0) (by decide) dX1_hangUp_10 ?_
  refine aw_putz (q := (0, 101 + 8 * s + 6)) (by decide) (wv3 (by decide) (by omega)) rfl fwX1_15 rfl rfl dX1_hangUp_11 ?_
  refine aw_aload_n (x := ad 3 0 s) rfl dX1_hangUp_14 ?_
  refine aw_iconst (v := 0) (by decide) dX1_hangUp_15 ?_
  refine aw_putz (q := (0, 101 + 8 * s + 7)) (by decide) (wv3 (by decide) (by omega)) rfl fwX1_81 rfl rfl dX1_hangUp_16 ?_
  refine aw_aload_n (x := ad 8 0 0) rfl dX1_hangUp_19 ?_
  refine aw_getr (q := (0, 0, 0)) wv8 rfl flX1_9 rfl rfl dX1_hangUp_20 ?_
  refine aw_aload_n (x := ad 3 0 s) rfl dX1_hangUp_23 ?_
  refine aw_geti (q := (0, 101 + 8 * s + 1)) (x := nI l) (wv3 (by decide) (by omega)) rfl ((show _ = o.1 0 (101 + 8 * s + 1) from by simp [wd_get]).trans hh) flX1_21 rfl (Or.inl rfl) dX1_hangUp_24 ?_
  obtain ⟨o1, ho1⟩ : ∃ z, z = (wd_w (wd_w o 0 (101 + 8 * s + 6) 0) 0 (101 + 8 * s + 7) 0) := ⟨_, rfl⟩
  rw [← ho1]
  have Go1 : cg (o1.1 0) n m := by rw [ho1]; simp only [wd_w_row, row_self]; exact cg_upd (cg_upd (G) (by omega) (by omega) (fun _ _ => ⟨by omega, by omega⟩)) (by omega) (by omega) (fun _ _ => ⟨by omega, by omega⟩)
  have hho1 : o1.1 0 (101 + 8 * s + 1) = nI l := by rw [ho1]; simp only [wd_w_row, row_self]; rw [upd_ne _ _ (by omega)]; rw [upd_ne _ _ (by omega)]; exact hh
  refine aw_rV (As := [.int (nI l)]) (S := []) (v := some (.ref (ad 1 0 l))) (o2 := o1) (ct_X5_loopAt_some Go1 hl) (mm_fit_of cbX5_loopAt (by decide) (by decide)) wq564 cvX5_loopAt (wv0 (by decide)) rfl rfl rfl (Nat.le_of_ble_eq_true rfl) (by decide) (by decide) rfl dX1_hangUp_27 ?_
  refine aw_astore_n (L2 := [some (.ref (ad 8 0 0)), some (.ref (ad 3 0 s)), some (.int (cs_party (o.1 0) l s)), some (.ref (ad 1 0 l))]) (by decide) rfl rfl dX1_hangUp_30 ?_
  refine aw_aload_n (x := ad 1 0 l) rfl dX1_hangUp_31 ?_
  refine aw_ifnull dX1_hangUp_32 ?_
  refine aw_iload_n (x := (cs_party (o.1 0) l s)) rfl dX1_hangUp_35 ?_
  refine aw_if_ne (tgt := 40) (by decide) dX1_hangUp_36 (fun b1 => ?_) (fun b1 => ?_)
  · skip
    refine aw_aload_n (x := ad 1 0 l) rfl dX1_hangUp_40 ?_
    refine aw_geti (q := (0, 20 * l + 1)) (x := o1.1 0 (20 * l + 1)) (wv1 (by decide) (by omega)) rfl rfl flX1_37 rfl (Or.inl rfl) dX1_hangUp_41 ?_
    refine aw_bipush (v := 6) (by decide) dX1_hangUp_44 ?_
    refine aw_icmp_ne (tgt := 67) (by decide) dX1_hangUp_46 (fun b2 => ?_) (fun b2 => ?_)
    · skip
      refine aw_aload_n (x := ad 8 0 0) rfl dX1_hangUp_67 ?_
      refine aw_aload_n (x := ad 1 0 l) rfl dX1_hangUp_68 ?_
      refine aw_rV (As := [.ref (ad 1 0 l)]) (S := []) (v := none) (o2 := (wd_row o1 0 (cs_end (o1.1 0) n m l))) (ct_X1_endCall Go1 (by omega)) (mm_fit_of cbX1_endCall (by decide) (by decide)) wq613 cvX1_endCall wv8 rfl rfl rfl (Nat.le_of_ble_eq_true rfl) (by decide) (by decide) rfl dX1_hangUp_69 ?_
      exact aw_vret rfl (by decide) (by decide) dX1_hangUp_72 ⟨rfl, by (subst ho1; first | with_reducible rfl | (simp [cs_hang, wd_w_row, row_self, row_row, b1, b2]; done) | (simp_all [cs_hang, wd_w_row, row_self, row_row, b1, b2]; done))⟩
    · skip
      refine aw_aload_n (x := ad 8 0 0) rfl dX1_hangUp_49 ?_
      refine aw_aload_n (x := ad 1 0 l) rfl dX1_hangUp_50 ?_
      refine aw_rV (As := [.ref (ad 1 0 l)]) (S := []) (v := some (.int (cs_low (o1.1 0) m l))) (o2 := o1) (ct_X1_low Go1 hl5) (mm_fit_of cbX1_lowestOffHook (by decide) (by decide)) wq608 cvX1_lowestOffHook wv8 rfl rfl rfl (Nat.le_of_ble_eq_true rfl) (by decide) (by decide) rfl dX1_hangUp_51 ?_
      refine aw_iconst (v := (-1)) (by decide) dX1_hangUp_54 ?_
      refine aw_icmp_ne (tgt := 67) (by decide) dX1_hangUp_55 (fun b3 => ?_) (fun b3 => ?_)
      · skip
        refine aw_aload_n (x := ad 8 0 0) rfl dX1_hangUp_67 ?_
        refine aw_aload_n (x := ad 1 0 l) rfl dX1_hangUp_68 ?_
        refine aw_rV (As := [.ref (ad 1 0 l)]) (S := []) (v := none) (o2 := (wd_row o1 0 (cs_end (o1.1 0) n m l))) (ct_X1_endCall Go1 (by omega)) (mm_fit_of cbX1_endCall (by decide) (by decide)) wq613 cvX1_endCall wv8 rfl rfl rfl (Nat.le_of_ble_eq_true rfl) (by decide) (by decide) rfl dX1_hangUp_69 ?_
        exact aw_vret rfl (by decide) (by decide) dX1_hangUp_72 ⟨rfl, by (subst ho1; first | with_reducible rfl | (simp [cs_hang, wd_w_row, row_self, row_row, b1, b2, b3]; done) | (simp_all [cs_hang, wd_w_row, row_self, row_row, b1, b2, b3]; done))⟩
      · skip
        refine aw_aload_n (x := ad 1 0 l) rfl dX1_hangUp_58 ?_
        refine aw_bipush (v := 7) (by decide) dX1_hangUp_59 ?_
        refine aw_rV (As := [.int 7]) (S := []) (v := none) (o2 := (wd_row o1 0 (cs_comeTo (o1.1 0) l 7))) (ct_X3_comeTo (by decide) (by omega)) (mm_fit_of cbX3_comeTo (by decide) (by decide)) wq574 cvX3_comeTo (wv1 (by decide) (by omega)) rfl rfl rfl (Nat.le_of_ble_eq_true rfl) (by decide) (by decide) rfl dX1_hangUp_61 ?_
        refine aw_goto (tgt := 72) (by decide) dX1_hangUp_64 ?_
        exact aw_vret rfl (by decide) (by decide) dX1_hangUp_72 ⟨rfl, by (subst ho1; first | with_reducible rfl | (simp [cs_hang, wd_w_row, row_self, row_row, b1, b2, b3]; done) | (simp_all [cs_hang, wd_w_row, row_self, row_row, b1, b2, b3]; done))⟩
  · skip
    exact aw_vret rfl (by decide) (by decide) dX1_hangUp_39 ⟨rfl, by (subst ho1; first | with_reducible rfl | (simp [cs_hang, wd_w_row, row_self, row_row, b1]; done) | (simp_all [cs_hang, wd_w_row, row_self, row_row, b1]; done))⟩
def cs_lck (B : Nat → Int32) (m l i : Nat) : Bool := decide (mem B m l i) && decide (B (101 + 8 * i + 7) ≠ 0)
def cs_locks (B : Nat → Int32) (m l : Nat) : Int32 := if anyF (cs_lck B m l) 16 0 = true then 1 else 0
theorem lp_X1_locks {ad : Nat → Nat → Nat → Nat} {o : wd_S} {n m l : Nat} (G : cg (o.1 0) n m) (hl : l < 5) : ∀ (k i : Nat) , i + k = 16 → AW ad MX1_locksSomeoneOut 2 [some (.ref (ad 8 0 0)), some (.ref (ad 1 0 l)), some (.int (nI i)), none] [] o 0 0 (RT (some (.int (if anyF (cs_lck (o.1 0) m l) (k) (i) = true then 1 else 0))) o) := by
  obtain ⟨g1, g2, g3, g4, g5, g6⟩ := id G
  intro k
  induction k with
  | zero =>
    intro i hk
    have hi : i = 16 := by omega
    subst hi
    refine aw_iload_n (x := (nI 16)) rfl dX1_locksSomeoneOut_2 ?_
    refine aw_bipush (v := 16) (by decide) dX1_locksSomeoneOut_3 ?_
    refine aw_icmp_ge (tgt := 37) (by decide) dX1_locksSomeoneOut_5 (fun _ => ?_) (fun z => absurd (by decide) z)
    refine aw_iconst (v := 0) (by decide) dX1_locksSomeoneOut_37 ?_
    exact aw_zret rfl (by decide) (by decide) (by decide) dX1_locksSomeoneOut_38 ⟨by first | rfl | (simp [anyF, cs_lck, mem]; done) | (simp_all [anyF, cs_lck, mem]; done), by first | rfl | (simp [anyF, cs_lck, mem]; done) | (simp_all [anyF, cs_lck, mem]; done)⟩
  | succ k ih =>
    intro i hk
    have hi : i < 16 := by omega
    refine aw_iload_n (x := (nI i)) rfl dX1_locksSomeoneOut_2 ?_
    refine aw_bipush (v := 16) (by decide) dX1_locksSomeoneOut_3 ?_
    refine aw_icmp_ge (tgt := 37) (by decide) dX1_locksSomeoneOut_5 (fun z => absurd z (nI_ge (b := 16) hi (by decide))) (fun _ => ?_)
    refine aw_aload_n (x := ad 8 0 0) rfl dX1_locksSomeoneOut_8 ?_
    refine aw_getr (q := (0, 0, 0)) wv8 rfl flX1_9 rfl rfl dX1_locksSomeoneOut_9 ?_
    refine aw_aload_n (x := ad 1 0 l) rfl dX1_locksSomeoneOut_12 ?_
    refine aw_iload_n (x := (nI i)) rfl dX1_locksSomeoneOut_13 ?_
    by_cases q1 : mem (o.1 0) m l i
    · skip
      refine aw_rV (v := some (.ref (ad 3 0 i))) (o2 := o) (ct_X5_memberAt_some G hl q1) (mm_fit_of cbX5_memberAt (by decide) (by decide)) wq612 cvX5_memberAt (wv0 (by decide)) rfl rfl rfl (Nat.le_of_ble_eq_true rfl) (by decide) (by decide) rfl dX1_locksSomeoneOut_14 ?_
      refine aw_astore_n (L2 := [some (.ref (ad 8 0 0)), some (.ref (ad 1 0 l)), some (.int (nI i)), some (.ref (ad 3 0 i))]) (by decide) rfl rfl dX1_locksSomeoneOut_17 ?_
      refine aw_aload_n (x := ad 3 0 i) rfl dX1_locksSomeoneOut_18 ?_
      refine aw_ifnull dX1_locksSomeoneOut_19 ?_
      refine aw_aload_n (x := ad 3 0 i) rfl dX1_locksSomeoneOut_22 ?_
      refine aw_geti (q := (0, 101 + 8 * i + 7)) (x := o.1 0 (101 + 8 * i + 7)) (wv3 (by decide) (by omega)) rfl rfl flX1_81 rfl (Or.inr rfl) dX1_locksSomeoneOut_23 ?_
      refine aw_if_eq (tgt := 31) (by decide) dX1_locksSomeoneOut_26 (fun b2 => ?_) (fun b2 => ?_)
      · skip
        refine aw_iinc (n := 1) (x := (nI i)) (v := nI (i + 1)) (L2 := [some (.ref (ad 8 0 0)), some (.ref (ad 1 0 l)), some (.int (nI (i + 1))), some (.ref (ad 3 0 i))]) rfl (nI_1 i) (by decide) rfl rfl dX1_locksSomeoneOut_31 ?_
        refine aw_goto (tgt := 2) (by decide) dX1_locksSomeoneOut_34 ?_
        have e9 : (RT (some (.int (if anyF (cs_lck (o.1 0) m l) (k + 1) (i) = true then 1 else 0))) o) = (RT (some (.int (if anyF (cs_lck (o.1 0) m l) (k) (i + 1) = true then 1 else 0))) o) := by first | (simp [anyF, cs_lck, mem, q1, b2]; done) | (simp_all [anyF, cs_lck, mem, q1, b2]; done)
        rw [e9]
        exact AW.locs (ih (i + 1)  (by omega) ) (lsub_keep (lsub_keep (lsub_keep (lsub_none lsub_nil))))
      · skip
        refine aw_iconst (v := 1) (by decide) dX1_locksSomeoneOut_29 ?_
        exact aw_zret rfl (by decide) (by decide) (by decide) dX1_locksSomeoneOut_30 ⟨by first | rfl | (simp [anyF, cs_lck, mem, q1, b2]; done) | (simp_all [anyF, cs_lck, mem, q1, b2]; done), by first | rfl | (simp [anyF, cs_lck, mem, q1, b2]; done) | (simp_all [anyF, cs_lck, mem, q1, b2]; done)⟩
    · skip
      refine aw_rV (v := some .null) (o2 := o) (ct_X5_memberAt_none G hl (by omega) q1) (mm_fit_of cbX5_memberAt (by decide) (by decide)) wq612 cvX5_memberAt (wv0 (by decide)) rfl rfl rfl (Nat.le_of_ble_eq_true rfl) (by decide) (by decide) rfl dX1_locksSomeoneOut_14 ?_
      refine aw_astore_nN (L2 := [some (.ref (ad 8 0 0)), some (.ref (ad 1 0 l)), some (.int (nI i)), some (.null)]) (by decide) rfl rfl dX1_locksSomeoneOut_17 ?_
      refine aw_aload_nN rfl dX1_locksSomeoneOut_18 ?_
      refine aw_ifnullN (tgt := 31) (by decide) dX1_locksSomeoneOut_19 ?_
      refine aw_iinc (n := 1) (x := (nI i)) (v := nI (i + 1)) (L2 := [some (.ref (ad 8 0 0)), some (.ref (ad 1 0 l)), some (.int (nI (i + 1))), some (.null)]) rfl (nI_1 i) (by decide) rfl rfl dX1_locksSomeoneOut_31 ?_
      refine aw_goto (tgt := 2) (by decide) dX1_locksSomeoneOut_34 ?_
      have e9 : (RT (some (.int (if anyF (cs_lck (o.1 0) m l) (k + 1) (i) = true then 1 else 0))) o) = (RT (some (.int (if anyF (cs_lck (o.1 0) m l) (k) (i + 1) = true then 1 else 0))) o) := by first | (simp [anyF, cs_lck, mem, q1]; done) | (simp_all [anyF, cs_lck, mem, q1]; done)
      rw [e9]
      exact AW.locs (ih (i + 1)  (by omega) ) (lsub_keep (lsub_keep (lsub_keep (lsub_none lsub_nil))))
theorem ct_X1_locks {ad : Nat → Nat → Nat → Nat} {o : wd_S} {n m l : Nat} (G : cg (o.1 0) n m) (hl : l < 5) : CT ad MX1_locksSomeoneOut [.ref (ad 8 0 0), .ref (ad 1 0 l)] o (RT (some (.int (cs_locks (o.1 0) m l))) o) := by
  refine CT.of (L := [some (.ref (ad 8 0 0)), some (.ref (ad 1 0 l)), none, none]) rfl rfl (by decide) (Nat.le_of_ble_eq_true rfl) rfl ?_
  refine aw_iconst (v := 0) (by decide) dX1_locksSomeoneOut_0 ?_
  refine aw_istore_n (L2 := [some (.ref (ad 8 0 0)), some (.ref (ad 1 0 l)), some (.int 0), none]) (by decide) rfl rfl dX1_locksSomeoneOut_1 ?_
  exact AW.post (AW.locs (lp_X1_locks G hl 16 0 (by decide)) (lsub_keep (lsub_keep (lsub_keep (lsub_keep lsub_nil))))) (fun r o2 q => by simpa [cs_locks] using q)
def cs_over (B : Nat → Int32) (n m l : Nat) : Int32 := if B (20 * l + 2) ≥ B 230 then (if cs_locks B m l = 0 then (match lk n (B (20 * l + 5)) with | none => 0 | some e => if cs_locks B m e = 0 then 0 else 1) else 1) else 0
theorem ct_X1_over {ad : Nat → Nat → Nat → Nat} {o : wd_S} {n m l : Nat} (G : cg (o.1 0) n m) (hl : l < 5) : CT ad MX1_isOverLimit [.ref (ad 8 0 0), .ref (ad 1 0 l)] o (RT (some (.int (cs_over (o.1 0) n m l))) o) := by
  obtain ⟨g1, g2, g3, g4, g5, g6⟩ := id G
  refine CT.of (L := [some (.ref (ad 8 0 0)), some (.ref (ad 1 0 l)), none]) rfl rfl (by decide) (Nat.le_of_ble_eq_true rfl) rfl ?_
  refine aw_aload_n (x := ad 1 0 l) rfl dX1_isOverLimit_0 ?_
  refine aw_geti (q := (0, 20 * l + 2)) (x := o.1 0 (20 * l + 2)) (wv1 (by decide) hl) rfl rfl flX1_125 rfl (Or.inl rfl) dX1_isOverLimit_1 ?_
  refine aw_aload_n (x := ad 8 0 0) rfl dX1_isOverLimit_4 ?_
  refine aw_getr (q := (0, 0, 0)) wv8 rfl flX1_9 rfl rfl dX1_isOverLimit_5 ?_
  refine aw_geti (q := (0, 230)) (x := o.1 0 230) (wv0 (by decide)) rfl rfl flX1_150 rfl (Or.inl rfl) dX1_isOverLimit_8 ?_
  refine aw_icmp_ge (tgt := 16) (by decide) dX1_isOverLimit_11 (fun b1 => ?_) (fun b1 => ?_)
  · skip
    refine aw_aload_n (x := ad 8 0 0) rfl dX1_isOverLimit_16 ?_
    refine aw_getr (q := (0, 0, 0)) wv8 rfl flX1_9 rfl rfl dX1_isOverLimit_17 ?_
    refine aw_aload_n (x := ad 1 0 l) rfl dX1_isOverLimit_20 ?_
    refine aw_geti (q := (0, 20 * l + 5)) (x := o.1 0 (20 * l + 5)) (wv1 (by decide) hl) rfl rfl flX1_60 rfl (Or.inl rfl) dX1_isOverLimit_21 ?_
    rcases k2 : lk n (o.1 0 (20 * l + 5)) with _ | e2
    · skip
      refine aw_rV (As := [.int (o.1 0 (20 * l + 5))]) (S := []) (v := some (.null)) (o2 := o) (ct_X5_loopAt_none (lk_none G.1 (by have := G.2.1; have := G.2.2.2.1; omega) k2)) (mm_fit_of cbX5_loopAt (by decide) (by decide)) wq564 cvX5_loopAt (wv0 (by decide)) rfl rfl rfl (Nat.le_of_ble_eq_true rfl) (by decide) (by decide) rfl dX1_isOverLimit_24 ?_
      refine aw_astore_nN (L2 := [some (.ref (ad 8 0 0)), some (.ref (ad 1 0 l)), some (.null)]) (by decide) rfl rfl dX1_isOverLimit_27 ?_
      refine aw_aload_n (x := ad 8 0 0) rfl dX1_isOverLimit_28 ?_
      refine aw_aload_n (x := ad 1 0 l) rfl dX1_isOverLimit_29 ?_
      refine aw_rV (As := [.ref (ad 1 0 l)]) (S := []) (v := some (.int (cs_locks (o.1 0) m l))) (o2 := o) (ct_X1_locks G (by omega)) (mm_fit_of cbX1_locksSomeoneOut (by decide) (by decide)) wq670 cvX1_locksSomeoneOut wv8 rfl rfl rfl (Nat.le_of_ble_eq_true rfl) (by decide) (by decide) rfl dX1_isOverLimit_30 ?_
      refine aw_if_ne (tgt := 48) (by decide) dX1_isOverLimit_33 (fun b3 => ?_) (fun b3 => ?_)
      · skip
        refine aw_iconst (v := 1) (by decide) dX1_isOverLimit_48 ?_
        refine aw_goto (tgt := 53) (by decide) dX1_isOverLimit_49 ?_
        exact aw_zret rfl (by decide) (by decide) (by decide) dX1_isOverLimit_53 ⟨by (first | with_reducible rfl | (simp [cs_over, wd_w_row, row_self, row_row, b1, k2, b3]; done) | (simp_all [cs_over, wd_w_row, row_self, row_row, b1, k2, b3]; done)), by (first | with_reducible rfl | (simp [cs_over, wd_w_row, row_self, row_row, b1, k2, b3]; done) | (simp_all [cs_over, wd_w_row, row_self, row_row, b1, k2, b3]; done))⟩
      · skip
        refine aw_aload_nN rfl dX1_isOverLimit_36 ?_
        refine aw_ifnullN (tgt := 52) (by decide) dX1_isOverLimit_37 ?_
        refine aw_iconst (v := 0) (by decide) dX1_isOverLimit_52 ?_
        exact aw_zret rfl (by decide) (by decide) (by decide) dX1_isOverLimit_53 ⟨by (first | with_reducible rfl | (simp [cs_over, wd_w_row, row_self, row_row, b1, k2, b3]; done) | (simp_all [cs_over, wd_w_row, row_self, row_row, b1, k2, b3]; done)), by (first | with_reducible rfl | (simp [cs_over, wd_w_row, row_self, row_row, b1, k2, b3]; done) | (simp_all [cs_over, wd_w_row, row_self, row_row, b1, k2, b3]; done))⟩
    · skip
      obtain ⟨k2e, k2l⟩ := lk_some k2
      have k2b : e2 < 5 := by have := G.2.1; have := G.2.2.2.1; omega
      refine aw_rV (As := [.int (o.1 0 (20 * l + 5))]) (S := []) (v := some (.ref (ad 1 0 e2))) (o2 := o) (by rw [k2e]; exact ct_X5_loopAt_some G k2l) (mm_fit_of cbX5_loopAt (by decide) (by decide)) wq564 cvX5_loopAt (wv0 (by decide)) rfl rfl rfl (Nat.le_of_ble_eq_true rfl) (by decide) (by decide) rfl dX1_isOverLimit_24 ?_
      refine aw_astore_n (L2 := [some (.ref (ad 8 0 0)), some (.ref (ad 1 0 l)), some (.ref (ad 1 0 e2))]) (by decide) rfl rfl dX1_isOverLimit_27 ?_
      refine aw_aload_n (x := ad 8 0 0) rfl dX1_isOverLimit_28 ?_
      refine aw_aload_n (x := ad 1 0 l) rfl dX1_isOverLimit_29 ?_
      refine aw_rV (As := [.ref (ad 1 0 l)]) (S := []) (v := some (.int (cs_locks (o.1 0) m l))) (o2 := o) (ct_X1_locks G (by omega)) (mm_fit_of cbX1_locksSomeoneOut (by decide) (by decide)) wq670 cvX1_locksSomeoneOut wv8 rfl rfl rfl (Nat.le_of_ble_eq_true rfl) (by decide) (by decide) rfl dX1_isOverLimit_30 ?_
      refine aw_if_ne (tgt := 48) (by decide) dX1_isOverLimit_33 (fun b4 => ?_) (fun b4 => ?_)
      · skip
        refine aw_iconst (v := 1) (by decide) dX1_isOverLimit_48 ?_
        refine aw_goto (tgt := 53) (by decide) dX1_isOverLimit_49 ?_
        exact aw_zret rfl (by decide) (by decide) (by decide) dX1_isOverLimit_53 ⟨by (first | with_reducible rfl | (simp [cs_over, wd_w_row, row_self, row_row, b1, k2, b4]; done) | (simp_all [cs_over, wd_w_row, row_self, row_row, b1, k2, b4]; done)), by (first | with_reducible rfl | (simp [cs_over, wd_w_row, row_self, row_row, b1, k2, b4]; done) | (simp_all [cs_over, wd_w_row, row_self, row_row, b1, k2, b4]; done))⟩
      · skip
        refine aw_aload_n (x := ad 1 0 e2) rfl dX1_isOverLimit_36 ?_
        refine aw_ifnull dX1_isOverLimit_37 ?_
        refine aw_aload_n (x := ad 8 0 0) rfl dX1_isOverLimit_40 ?_
        refine aw_aload_n (x := ad 1 0 e2) rfl dX1_isOverLimit_41 ?_
        refine aw_rV (As := [.ref (ad 1 0 e2)]) (S := []) (v := some (.int (cs_locks (o.1 0) m e2))) (o2 := o) (ct_X1_locks G (by omega)) (mm_fit_of cbX1_locksSomeoneOut (by decide) (by decide)) wq670 cvX1_locksSomeoneOut wv8 rfl rfl rfl (Nat.le_of_ble_eq_true rfl) (by decide) (by decide) rfl dX1_isOverLimit_42 ?_
        refine aw_if_eq (tgt := 52) (by decide) dX1_isOverLimit_45 (fun b5 => ?_) (fun b5 => ?_)
        · skip
          refine aw_iconst (v := 0) (by decide) dX1_isOverLimit_52 ?_
          exact aw_zret rfl (by decide) (by decide) (by decide) dX1_isOverLimit_53 ⟨by (first | with_reducible rfl | (simp [cs_over, wd_w_row, row_self, row_row, b1, k2, b4, b5]; done) | (simp_all [cs_over, wd_w_row, row_self, row_row, b1, k2, b4, b5]; done)), by (first | with_reducible rfl | (simp [cs_over, wd_w_row, row_self, row_row, b1, k2, b4, b5]; done) | (simp_all [cs_over, wd_w_row, row_self, row_row, b1, k2, b4, b5]; done))⟩
        · skip
          refine aw_iconst (v := 1) (by decide) dX1_isOverLimit_48 ?_
          refine aw_goto (tgt := 53) (by decide) dX1_isOverLimit_49 ?_
          exact aw_zret rfl (by decide) (by decide) (by decide) dX1_isOverLimit_53 ⟨by (first | with_reducible rfl | (simp [cs_over, wd_w_row, row_self, row_row, b1, k2, b4, b5]; done) | (simp_all [cs_over, wd_w_row, row_self, row_row, b1, k2, b4, b5]; done)), by (first | with_reducible rfl | (simp [cs_over, wd_w_row, row_self, row_row, b1, k2, b4, b5]; done) | (simp_all [cs_over, wd_w_row, row_self, row_row, b1, k2, b4, b5]; done))⟩
  · skip
    refine aw_iconst (v := 0) (by decide) dX1_isOverLimit_14 ?_
    exact aw_zret rfl (by decide) (by decide) (by decide) dX1_isOverLimit_15 ⟨by (first | with_reducible rfl | (simp [cs_over, wd_w_row, row_self, row_row, b1]; done) | (simp_all [cs_over, wd_w_row, row_self, row_row, b1]; done)), by (first | with_reducible rfl | (simp [cs_over, wd_w_row, row_self, row_row, b1]; done) | (simp_all [cs_over, wd_w_row, row_self, row_row, b1]; done))⟩
def cs_units (B : Nat → Int32) (m l : Nat) : Nat → Int32 := match lk m (B (20 * l + 3)) with
  | none => B
  | some e => if B (20 * l + 6) = 0 then B else if B (20 * l + 2) - B (20 * l + 2) / 6 * 6 = 0 then upd B (101 + 8 * e + 8) (B (101 + 8 * e + 8) + 1) else B
theorem cg_units {B : Nat → Int32} {n m l : Nat} (G : cg B n m) : cg (cs_units B m l) n m := by
  cases he : lk m (B (20 * l + 3)) with
  | none => simp only [cs_units, he]; exact G
  | some e =>
    simp only [cs_units, he]
    split
    · exact G
    · split
      · exact cg_upd G (by omega) (by omega) (fun _ _ => ⟨by omega, by omega⟩)
      · exact G
theorem ct_X1_units {ad : Nat → Nat → Nat → Nat} {o : wd_S} {n m l : Nat} (G : cg (o.1 0) n m) (hl : l < 5) : CT ad MX1_countUnits [.ref (ad 8 0 0), .ref (ad 1 0 l)] o (RT none (wd_row o 0 (cs_units (o.1 0) m l))) := by
  obtain ⟨g1, g2, g3, g4, g5, g6⟩ := id G
  refine CT.of (L := [some (.ref (ad 8 0 0)), some (.ref (ad 1 0 l)), none]) rfl rfl (by decide) (Nat.le_of_ble_eq_true rfl) rfl ?_
  refine aw_aload_n (x := ad 8 0 0) rfl dX1_countUnits_0 ?_
  refine aw_getr (q := (0, 0, 0)) wv8 rfl flX1_9 rfl rfl dX1_countUnits_1 ?_
  refine aw_aload_n (x := ad 1 0 l) rfl dX1_countUnits_4 ?_
  refine aw_geti (q := (0, 20 * l + 3)) (x := o.1 0 (20 * l + 3)) (wv1 (by decide) hl) rfl rfl flX1_54 rfl (Or.inl rfl) dX1_countUnits_5 ?_
  rcases k1 : lk m (o.1 0 (20 * l + 3)) with _ | e1
  · skip
    refine aw_rV (As := [.int (o.1 0 (20 * l + 3))]) (S := []) (v := some (.null)) (o2 := o) (ct_X5_subscriberAt_none (lk_none G.2.2.1 (by have := G.2.1; have := G.2.2.2.1; omega) k1)) (mm_fit_of cbX5_subscriberAt (by decide) (by decide)) wq299 cvX5_subscriberAt (wv0 (by decide)) rfl rfl rfl (Nat.le_of_ble_eq_true rfl) (by decide) (by decide) rfl dX1_countUnits_8 ?_
    refine aw_astore_nN (L2 := [some (.ref (ad 8 0 0)), some (.ref (ad 1 0 l)), some (.null)]) (by decide) rfl rfl dX1_countUnits_11 ?_
    refine aw_aload_nN rfl dX1_countUnits_12 ?_
    refine aw_ifnullN (tgt := 43) (by decide) dX1_countUnits_13 ?_
    exact aw_vret rfl (by decide) (by decide) dX1_countUnits_43 ⟨rfl, by (first | with_reducible rfl | (simp [cs_units, row_id, wd_w_row, row_self, row_row, k1]; done) | (simp_all [cs_units, row_id, wd_w_row, row_self, row_row, k1]; done))⟩
  · skip
    obtain ⟨k1e, k1l⟩ := lk_some k1
    have k1b : e1 < 16 := by have := G.2.1; have := G.2.2.2.1; omega
    refine aw_rV (As := [.int (o.1 0 (20 * l + 3))]) (S := []) (v := some (.ref (ad 3 0 e1))) (o2 := o) (by rw [k1e]; exact ct_X5_subscriberAt_some G k1l) (mm_fit_of cbX5_subscriberAt (by decide) (by decide)) wq299 cvX5_subscriberAt (wv0 (by decide)) rfl rfl rfl (Nat.le_of_ble_eq_true rfl) (by decide) (by decide) rfl dX1_countUnits_8 ?_
    refine aw_astore_n (L2 := [some (.ref (ad 8 0 0)), some (.ref (ad 1 0 l)), some (.ref (ad 3 0 e1))]) (by decide) rfl rfl dX1_countUnits_11 ?_
    refine aw_aload_n (x := ad 3 0 e1) rfl dX1_countUnits_12 ?_
    refine aw_ifnull dX1_countUnits_13 ?_
    refine aw_aload_n (x := ad 1 0 l) rfl dX1_countUnits_16 ?_
    refine aw_geti (q := (0, 20 * l + 6)) (x := o.1 0 (20 * l + 6)) (wv1 (by decide) hl) rfl rfl flX1_67 rfl (Or.inr rfl) dX1_countUnits_17 ?_
    refine aw_if_eq (tgt := 43) (by decide) dX1_countUnits_20 (fun b2 => ?_) (fun b2 => ?_)
    · skip
      exact aw_vret rfl (by decide) (by decide) dX1_countUnits_43 ⟨rfl, by (first | with_reducible rfl | (simp [cs_units, row_id, wd_w_row, row_self, row_row, k1, b2]; done) | (simp_all [cs_units, row_id, wd_w_row, row_self, row_row, k1, b2]; done))⟩
    · skip
      refine aw_aload_n (x := ad 1 0 l) rfl dX1_countUnits_23 ?_
      refine aw_geti (q := (0, 20 * l + 2)) (x := o.1 0 (20 * l + 2)) (wv1 (by decide) hl) rfl rfl flX1_125 rfl (Or.inl rfl) dX1_countUnits_24 ?_
      refine aw_bipush (v := 6) (by decide) dX1_countUnits_27 ?_
      refine aw_iremz (z := (o.1 0 (20 * l + 2)) - (o.1 0 (20 * l + 2)) / 6 * 6) (by decide) rfl dX1_countUnits_29 ?_
      refine aw_if_ne (tgt := 43) (by decide) dX1_countUnits_30 (fun b3 => ?_) (fun b3 => ?_)
      · skip
        exact aw_vret rfl (by decide) (by decide) dX1_countUnits_43 ⟨rfl, by (first | with_reducible rfl | (simp [cs_units, row_id, wd_w_row, row_self, row_row, k1, b2, b3]; done) | (simp_all [cs_units, row_id, wd_w_row, row_self, row_row, k1, b2, b3]; done))⟩
      · skip
        refine aw_aload_n (x := ad 3 0 e1) rfl dX1_countUnits_33 ?_
        refine aw_dup rfl dX1_countUnits_34 ?_
        refine aw_geti (q := (0, 101 + 8 * e1 + 8)) (x := o.1 0 (101 + 8 * e1 + 8)) (wv3 (by decide) k1b) rfl rfl flX1_147 rfl (Or.inl rfl) dX1_countUnits_35 ?_
        refine aw_iconst (v := 1) (by decide) dX1_countUnits_38 ?_
        refine aw_iaddz (z := (o.1 0 (101 + 8 * e1 + 8)) + 1) rfl dX1_countUnits_39 ?_
        refine aw_puti (q := (0, 101 + 8 * e1 + 8)) (wv3 (by decide) k1b) rfl fwX1_147 rfl rfl dX1_countUnits_40 ?_
        exact aw_vret rfl (by decide) (by decide) dX1_countUnits_43 ⟨rfl, by (first | with_reducible rfl | (simp [cs_units, row_id, wd_w_row, row_self, row_row, k1, b2, b3]; done) | (simp_all [cs_units, row_id, wd_w_row, row_self, row_row, k1, b2, b3]; done))⟩
def cs_tcode (B : Nat → Int32) (m : Nat) (x : Int32) : Int32 := match lk m x with
  | none => 0
  | some e => tc_len (B (101 + 8 * e + 3))
def cs_tround (B : Nat → Int32) (m l : Nat) : Int32 := cs_tcode B m (B (20 * l + 4)) + cs_tcode B m (B (20 * l + 3))
def cs_lost (B : Nat → Int32) (m l : Nat) : Int32 := if B (20 * l + 1) = 3 then (if B (20 * l + 2) = 5 * cs_tround B m l then 1 else 0) else (if B (20 * l + 2) = 4 * cs_tround B m l then 1 else 0)
theorem ct_X1_tcode {ad : Nat → Nat → Nat → Nat} {o : wd_S} {n m : Nat} {x : Int32} (G : cg (o.1 0) n m) : CT ad MX1_ticksOfCode [.ref (ad 8 0 0), .int x] o (RT (some (.int (cs_tcode (o.1 0) m x))) o) := by
  obtain ⟨g1, g2, g3, g4, g5, g6⟩ := id G
  refine CT.of (L := [some (.ref (ad 8 0 0)), some (.int x), none]) rfl rfl (by decide) (Nat.le_of_ble_eq_true rfl) rfl ?_
  refine aw_aload_n (x := ad 8 0 0) rfl dX1_ticksOfCode_0 ?_
  refine aw_getr (q := (0, 0, 0)) wv8 rfl flX1_9 rfl rfl dX1_ticksOfCode_1 ?_
  refine aw_iload_n (x := x) rfl dX1_ticksOfCode_4 ?_
  rcases k1 : lk m x with _ | e1
  · skip
    refine aw_rV (As := [.int x]) (S := []) (v := some (.null)) (o2 := o) (ct_X5_subscriberAt_none (lk_none G.2.2.1 (by have := G.2.1; have := G.2.2.2.1; omega) k1)) (mm_fit_of cbX5_subscriberAt (by decide) (by decide)) wq299 cvX5_subscriberAt (wv0 (by decide)) rfl rfl rfl (Nat.le_of_ble_eq_true rfl) (by decide) (by decide) rfl dX1_ticksOfCode_5 ?_
    refine aw_astore_nN (L2 := [some (.ref (ad 8 0 0)), some (.int x), some (.null)]) (by decide) rfl rfl dX1_ticksOfCode_8 ?_
    refine aw_aload_nN rfl dX1_ticksOfCode_9 ?_
    refine aw_ifnonnullN dX1_ticksOfCode_10 ?_
    refine aw_iconst (v := 0) (by decide) dX1_ticksOfCode_13 ?_
    refine aw_goto (tgt := 24) (by decide) dX1_ticksOfCode_14 ?_
    exact aw_iret rfl (by decide) (by decide) dX1_ticksOfCode_24 ⟨by (first | with_reducible rfl | (simp [cs_tcode, wd_w_row, row_self, row_row, k1]; done) | (simp_all [cs_tcode, wd_w_row, row_self, row_row, k1]; done)), by (first | with_reducible rfl | (simp [cs_tcode, wd_w_row, row_self, row_row, k1]; done) | (simp_all [cs_tcode, wd_w_row, row_self, row_row, k1]; done))⟩
  · skip
    obtain ⟨k1e, k1l⟩ := lk_some k1
    have k1b : e1 < 16 := by have := G.2.1; have := G.2.2.2.1; omega
    refine aw_rV (As := [.int x]) (S := []) (v := some (.ref (ad 3 0 e1))) (o2 := o) (by rw [k1e]; exact ct_X5_subscriberAt_some G k1l) (mm_fit_of cbX5_subscriberAt (by decide) (by decide)) wq299 cvX5_subscriberAt (wv0 (by decide)) rfl rfl rfl (Nat.le_of_ble_eq_true rfl) (by decide) (by decide) rfl dX1_ticksOfCode_5 ?_
    refine aw_astore_n (L2 := [some (.ref (ad 8 0 0)), some (.int x), some (.ref (ad 3 0 e1))]) (by decide) rfl rfl dX1_ticksOfCode_8 ?_
    refine aw_aload_n (x := ad 3 0 e1) rfl dX1_ticksOfCode_9 ?_
    refine aw_ifnonnull (tgt := 17) (by decide) dX1_ticksOfCode_10 ?_
    refine aw_aload_n (x := ad 3 0 e1) rfl dX1_ticksOfCode_17 ?_
    refine aw_geti (q := (0, 101 + 8 * e1 + 3)) (x := o.1 0 (101 + 8 * e1 + 3)) (wv3 (by decide) k1b) rfl rfl flX1_172 rfl (Or.inl rfl) dX1_ticksOfCode_18 ?_
    refine aw_rS (v := some (.int (tc_len (o.1 0 (101 + 8 * e1 + 3))))) (o2 := o) (ct_X0_lengthOf (g6 _ (by omega)).1 (g6 _ (by omega)).2) (mm_fit_of cbX0_lengthOf (by decide) (by decide)) wq300 wq301 rfl rfl (Nat.le_of_ble_eq_true rfl) (by decide) (by decide) rfl dX1_ticksOfCode_21 ?_
    exact aw_iret rfl (by decide) (by decide) dX1_ticksOfCode_24 ⟨by (first | with_reducible rfl | (simp [cs_tcode, wd_w_row, row_self, row_row, k1]; done) | (simp_all [cs_tcode, wd_w_row, row_self, row_row, k1]; done)), by (first | with_reducible rfl | (simp [cs_tcode, wd_w_row, row_self, row_row, k1]; done) | (simp_all [cs_tcode, wd_w_row, row_self, row_row, k1]; done))⟩
theorem ct_X1_tround {ad : Nat → Nat → Nat → Nat} {o : wd_S} {n m l : Nat} (G : cg (o.1 0) n m) (hl : l < 5) : CT ad MX1_ticksOfRound [.ref (ad 8 0 0), .ref (ad 1 0 l)] o (RT (some (.int (cs_tround (o.1 0) m l))) o) := by
  obtain ⟨g1, g2, g3, g4, g5, g6⟩ := id G
  refine CT.of (L := [some (.ref (ad 8 0 0)), some (.ref (ad 1 0 l))]) rfl rfl (by decide) (Nat.le_of_ble_eq_true rfl) rfl ?_
  refine aw_aload_n (x := ad 8 0 0) rfl dX1_ticksOfRound_0 ?_
  refine aw_aload_n (x := ad 1 0 l) rfl dX1_ticksOfRound_1 ?_
  refine aw_geti (q := (0, 20 * l + 4)) (x := o.1 0 (20 * l + 4)) (wv1 (by decide) hl) rfl rfl flX1_74 rfl (Or.inl rfl) dX1_ticksOfRound_2 ?_
  refine aw_rV (As := [.int (o.1 0 (20 * l + 4))]) (S := []) (v := some (.int (cs_tcode (o.1 0) m (o.1 0 (20 * l + 4))))) (o2 := o) (ct_X1_tcode G) (mm_fit_of cbX1_ticksOfCode (by decide) (by decide)) wq295 cvX1_ticksOfCode wv8 rfl rfl rfl (Nat.le_of_ble_eq_true rfl) (by decide) (by decide) rfl dX1_ticksOfRound_5 ?_
  refine aw_aload_n (x := ad 8 0 0) rfl dX1_ticksOfRound_8 ?_
  refine aw_aload_n (x := ad 1 0 l) rfl dX1_ticksOfRound_9 ?_
  refine aw_geti (q := (0, 20 * l + 3)) (x := o.1 0 (20 * l + 3)) (wv1 (by decide) hl) rfl rfl flX1_54 rfl (Or.inl rfl) dX1_ticksOfRound_10 ?_
  refine aw_rV (As := [.int (o.1 0 (20 * l + 3))]) (S := [.int (cs_tcode (o.1 0) m (o.1 0 (20 * l + 4)))]) (v := some (.int (cs_tcode (o.1 0) m (o.1 0 (20 * l + 3))))) (o2 := o) (ct_X1_tcode G) (mm_fit_of cbX1_ticksOfCode (by decide) (by decide)) wq295 cvX1_ticksOfCode wv8 rfl rfl rfl (Nat.le_of_ble_eq_true rfl) (by decide) (by decide) rfl dX1_ticksOfRound_13 ?_
  refine aw_iaddz (z := (cs_tcode (o.1 0) m (o.1 0 (20 * l + 4))) + (cs_tcode (o.1 0) m (o.1 0 (20 * l + 3)))) rfl dX1_ticksOfRound_16 ?_
  exact aw_iret rfl (by decide) (by decide) dX1_ticksOfRound_17 ⟨by (first | with_reducible rfl | (simp [cs_tround, wd_w_row, row_self, row_row]; done) | (simp_all [cs_tround, wd_w_row, row_self, row_row]; done)), by (first | with_reducible rfl | (simp [cs_tround, wd_w_row, row_self, row_row]; done) | (simp_all [cs_tround, wd_w_row, row_self, row_row]; done))⟩
theorem ct_X1_lost {ad : Nat → Nat → Nat → Nat} {o : wd_S} {n m l : Nat} (G : cg (o.1 0) n m) (hl : l < 5) : CT ad MX1_isLost [.ref (ad 8 0 0), .ref (ad 1 0 l)] o (RT (some (.int (cs_lost (o.1 0) m l))) o) := by
  obtain ⟨g1, g2, g3, g4, g5, g6⟩ := id G
  refine CT.of (L := [some (.ref (ad 8 0 0)), some (.ref (ad 1 0 l)), none]) rfl rfl (by decide) (Nat.le_of_ble_eq_true rfl) rfl ?_
  refine aw_aload_n (x := ad 1 0 l) rfl dX1_isLost_0 ?_
  refine aw_geti (q := (0, 20 * l + 1)) (x := o.1 0 (20 * l + 1)) (wv1 (by decide) hl) rfl rfl flX1_37 rfl (Or.inl rfl) dX1_isLost_1 ?_
  refine aw_iconst (v := 3) (by decide) dX1_isLost_4 ?_
  refine aw_icmp_ne (tgt := 12) (by decide) dX1_isLost_5 (fun b1 => ?_) (fun b1 => ?_)
  · skip
    refine aw_iconst (v := 4) (by decide) dX1_isLost_12 ?_
    refine aw_istore_n (L2 := [some (.ref (ad 8 0 0)), some (.ref (ad 1 0 l)), some (.int 4)]) (by decide) rfl rfl dX1_isLost_13 ?_
    refine aw_aload_n (x := ad 1 0 l) rfl dX1_isLost_14 ?_
    refine aw_geti (q := (0, 20 * l + 2)) (x := o.1 0 (20 * l + 2)) (wv1 (by decide) hl) rfl rfl flX1_125 rfl (Or.inl rfl) dX1_isLost_15 ?_
    refine aw_iload_n (x := 4) rfl dX1_isLost_18 ?_
    refine aw_aload_n (x := ad 8 0 0) rfl dX1_isLost_19 ?_
    refine aw_aload_n (x := ad 1 0 l) rfl dX1_isLost_20 ?_
    refine aw_rV (As := [.ref (ad 1 0 l)]) (S := [.int 4, .int (o.1 0 (20 * l + 2))]) (v := some (.int (cs_tround (o.1 0) m l))) (o2 := o) (ct_X1_tround G (by omega)) (mm_fit_of cbX1_ticksOfRound (by decide) (by decide)) wq291 cvX1_ticksOfRound wv8 rfl rfl rfl (Nat.le_of_ble_eq_true rfl) (by decide) (by decide) rfl dX1_isLost_21 ?_
    refine aw_imulz (z := 4 * (cs_tround (o.1 0) m l)) rfl dX1_isLost_24 ?_
    refine aw_icmp_ne (tgt := 32) (by decide) dX1_isLost_25 (fun b2 => ?_) (fun b2 => ?_)
    · skip
      refine aw_iconst (v := 0) (by decide) dX1_isLost_32 ?_
      exact aw_zret rfl (by decide) (by decide) (by decide) dX1_isLost_33 ⟨by (first | with_reducible rfl | (simp [cs_lost, wd_w_row, row_self, row_row, b1, b2]; done) | (simp_all [cs_lost, wd_w_row, row_self, row_row, b1, b2]; done)), by (first | with_reducible rfl | (simp [cs_lost, wd_w_row, row_self, row_row, b1, b2]; done) | (simp_all [cs_lost, wd_w_row, row_self, row_row, b1, b2]; done))⟩
    · skip
      refine aw_iconst (v := 1) (by decide) dX1_isLost_28 ?_
      refine aw_goto (tgt := 33) (by decide) dX1_isLost_29 ?_
      exact aw_zret rfl (by decide) (by decide) (by decide) dX1_isLost_33 ⟨by (first | with_reducible rfl | (simp [cs_lost, wd_w_row, row_self, row_row, b1, b2]; done) | (simp_all [cs_lost, wd_w_row, row_self, row_row, b1, b2]; done)), by (first | with_reducible rfl | (simp [cs_lost, wd_w_row, row_self, row_row, b1, b2]; done) | (simp_all [cs_lost, wd_w_row, row_self, row_row, b1, b2]; done))⟩
  · skip
    refine aw_iconst (v := 5) (by decide) dX1_isLost_8 ?_
    refine aw_goto (tgt := 13) (by decide) dX1_isLost_9 ?_
    refine aw_istore_n (L2 := [some (.ref (ad 8 0 0)), some (.ref (ad 1 0 l)), some (.int 5)]) (by decide) rfl rfl dX1_isLost_13 ?_
    refine aw_aload_n (x := ad 1 0 l) rfl dX1_isLost_14 ?_
    refine aw_geti (q := (0, 20 * l + 2)) (x := o.1 0 (20 * l + 2)) (wv1 (by decide) hl) rfl rfl flX1_125 rfl (Or.inl rfl) dX1_isLost_15 ?_
    refine aw_iload_n (x := 5) rfl dX1_isLost_18 ?_
    refine aw_aload_n (x := ad 8 0 0) rfl dX1_isLost_19 ?_
    refine aw_aload_n (x := ad 1 0 l) rfl dX1_isLost_20 ?_
    refine aw_rV (As := [.ref (ad 1 0 l)]) (S := [.int 5, .int (o.1 0 (20 * l + 2))]) (v := some (.int (cs_tround (o.1 0) m l))) (o2 := o) (ct_X1_tround G (by omega)) (mm_fit_of cbX1_ticksOfRound (by decide) (by decide)) wq291 cvX1_ticksOfRound wv8 rfl rfl rfl (Nat.le_of_ble_eq_true rfl) (by decide) (by decide) rfl dX1_isLost_21 ?_
    refine aw_imulz (z := 5 * (cs_tround (o.1 0) m l)) rfl dX1_isLost_24 ?_
    refine aw_icmp_ne (tgt := 32) (by decide) dX1_isLost_25 (fun b3 => ?_) (fun b3 => ?_)
    · skip
      refine aw_iconst (v := 0) (by decide) dX1_isLost_32 ?_
      exact aw_zret rfl (by decide) (by decide) (by decide) dX1_isLost_33 ⟨by (first | with_reducible rfl | (simp [cs_lost, wd_w_row, row_self, row_row, b1, b3]; done) | (simp_all [cs_lost, wd_w_row, row_self, row_row, b1, b3]; done)), by (first | with_reducible rfl | (simp [cs_lost, wd_w_row, row_self, row_row, b1, b3]; done) | (simp_all [cs_lost, wd_w_row, row_self, row_row, b1, b3]; done))⟩
    · skip
      refine aw_iconst (v := 1) (by decide) dX1_isLost_28 ?_
      refine aw_goto (tgt := 33) (by decide) dX1_isLost_29 ?_
      exact aw_zret rfl (by decide) (by decide) (by decide) dX1_isLost_33 ⟨by (first | with_reducible rfl | (simp [cs_lost, wd_w_row, row_self, row_row, b1, b3]; done) | (simp_all [cs_lost, wd_w_row, row_self, row_row, b1, b3]; done)), by (first | with_reducible rfl | (simp [cs_lost, wd_w_row, row_self, row_row, b1, b3]; done) | (simp_all [cs_lost, wd_w_row, row_self, row_row, b1, b3]; done))⟩
theorem i32_ne0 {x : Int32} (h : x > 0) : ¬ x = 0 := fun e => by subst e; exact absurd h (by decide)
def cs_sound (B : Nat → Int32) (m l : Nat) : Int32 :=
  if cs_rung B l = 0 then 0 else
  let r := cs_tround B m l
  if r > 0 then
    let t := B (20 * l + 2) - B (20 * l + 2) / r * r
    let d := cs_tcode B m (B (20 * l + 4))
    if t ≥ d then (match lk m (B (20 * l + 3)) with | none => 0 | some e => tc_snd (B (101 + 8 * e + 3)) (t - d))
    else (match lk m (B (20 * l + 4)) with | none => 0 | some e => tc_snd (B (101 + 8 * e + 3)) t)
  else 0
theorem ct_X1_sound {ad : Nat → Nat → Nat → Nat} {o : wd_S} {n m l : Nat} (G : cg (o.1 0) n m) (hl : l < 5) : CT ad MX1_soundOf [.ref (ad 8 0 0), .ref (ad 1 0 l)] o (RT (some (.int (cs_sound (o.1 0) m l))) o) := by
  obtain ⟨g1, g2, g3, g4, g5, g6⟩ := id G
  refine CT.of (L := [some (.ref (ad 8 0 0)), some (.ref (ad 1 0 l)), none, none, none, none]) rfl rfl (by decide) (Nat.le_of_ble_eq_true rfl) rfl ?_
  refine aw_aload_n (x := ad 1 0 l) rfl dX1_soundOf_0 ?_
  refine aw_rV (As := []) (S := []) (v := some (.int (cs_rung (o.1 0) l))) (o2 := o) (ct_X3_isRung (by decide) hl) (mm_fit_of cbX3_isRung (by decide) (by decide)) wq287 cvX3_isRung (wv1 (by decide) hl) rfl rfl rfl (Nat.le_of_ble_eq_true rfl) (by decide) (by decide) rfl dX1_soundOf_1 ?_
  refine aw_if_eq (tgt := 15) (by decide) dX1_soundOf_4 (fun b1 => ?_) (fun b1 => ?_)
  · skip
    refine aw_iconst (v := 0) (by decide) dX1_soundOf_15 ?_
    refine aw_istore_n (L2 := [some (.ref (ad 8 0 0)), some (.ref (ad 1 0 l)), some (.int 0), none, none, none]) (by decide) rfl rfl dX1_soundOf_16 ?_
    refine aw_iload_n (x := 0) rfl dX1_soundOf_17 ?_
    refine aw_if_gt (tgt := 23) (by decide) dX1_soundOf_18 (fun z => absurd z (by decide)) (fun _ => ?_)
    refine aw_iconst (v := 0) (by decide) dX1_soundOf_21 ?_
    exact aw_iret rfl (by decide) (by decide) dX1_soundOf_22 ⟨by (first | with_reducible rfl | (simp [cs_sound, wd_w_row, row_self, row_row, b1]; done) | (simp_all [cs_sound, wd_w_row, row_self, row_row, b1]; done)), by (first | with_reducible rfl | (simp [cs_sound, wd_w_row, row_self, row_row, b1]; done) | (simp_all [cs_sound, wd_w_row, row_self, row_row, b1]; done))⟩
  · skip
    refine aw_aload_n (x := ad 8 0 0) rfl dX1_soundOf_7 ?_
    refine aw_aload_n (x := ad 1 0 l) rfl dX1_soundOf_8 ?_
    refine aw_rV (As := [.ref (ad 1 0 l)]) (S := []) (v := some (.int (cs_tround (o.1 0) m l))) (o2 := o) (ct_X1_tround G (by omega)) (mm_fit_of cbX1_ticksOfRound (by decide) (by decide)) wq291 cvX1_ticksOfRound wv8 rfl rfl rfl (Nat.le_of_ble_eq_true rfl) (by decide) (by decide) rfl dX1_soundOf_9 ?_
    refine aw_goto (tgt := 16) (by decide) dX1_soundOf_12 ?_
    refine aw_istore_n (L2 := [some (.ref (ad 8 0 0)), some (.ref (ad 1 0 l)), some (.int (cs_tround (o.1 0) m l)), none, none, none]) (by decide) rfl rfl dX1_soundOf_16 ?_
    refine aw_iload_n (x := (cs_tround (o.1 0) m l)) rfl dX1_soundOf_17 ?_
    refine aw_if_gt (tgt := 23) (by decide) dX1_soundOf_18 (fun b2 => ?_) (fun b2 => ?_)
    · skip
      refine aw_aload_n (x := ad 1 0 l) rfl dX1_soundOf_23 ?_
      refine aw_geti (q := (0, 20 * l + 2)) (x := o.1 0 (20 * l + 2)) (wv1 (by decide) hl) rfl rfl flX1_125 rfl (Or.inl rfl) dX1_soundOf_24 ?_
      refine aw_iload_n (x := (cs_tround (o.1 0) m l)) rfl dX1_soundOf_27 ?_
      refine aw_iremz (z := (o.1 0 (20 * l + 2)) - (o.1 0 (20 * l + 2)) / (cs_tround (o.1 0) m l) * (cs_tround (o.1 0) m l)) (i32_ne0 b2) rfl dX1_soundOf_28 ?_
      refine aw_istore_n (L2 := [some (.ref (ad 8 0 0)), some (.ref (ad 1 0 l)), some (.int (cs_tround (o.1 0) m l)), some (.int ((o.1 0 (20 * l + 2)) - (o.1 0 (20 * l + 2)) / (cs_tround (o.1 0) m l) * (cs_tround (o.1 0) m l))), none, none]) (by decide) rfl rfl dX1_soundOf_29 ?_
      refine aw_aload_n (x := ad 8 0 0) rfl dX1_soundOf_30 ?_
      refine aw_aload_n (x := ad 1 0 l) rfl dX1_soundOf_31 ?_
      refine aw_geti (q := (0, 20 * l + 4)) (x := o.1 0 (20 * l + 4)) (wv1 (by decide) hl) rfl rfl flX1_74 rfl (Or.inl rfl) dX1_soundOf_32 ?_
      refine aw_rV (As := [.int (o.1 0 (20 * l + 4))]) (S := []) (v := some (.int (cs_tcode (o.1 0) m (o.1 0 (20 * l + 4))))) (o2 := o) (ct_X1_tcode G) (mm_fit_of cbX1_ticksOfCode (by decide) (by decide)) wq295 cvX1_ticksOfCode wv8 rfl rfl rfl (Nat.le_of_ble_eq_true rfl) (by decide) (by decide) rfl dX1_soundOf_35 ?_
      refine aw_istore (L2 := [some (.ref (ad 8 0 0)), some (.ref (ad 1 0 l)), some (.int (cs_tround (o.1 0) m l)), some (.int ((o.1 0 (20 * l + 2)) - (o.1 0 (20 * l + 2)) / (cs_tround (o.1 0) m l) * (cs_tround (o.1 0) m l))), some (.int (cs_tcode (o.1 0) m (o.1 0 (20 * l + 4)))), none]) (by decide) rfl rfl dX1_soundOf_38 ?_
      refine aw_aload_n (x := ad 8 0 0) rfl dX1_soundOf_40 ?_
      refine aw_getr (q := (0, 0, 0)) wv8 rfl flX1_9 rfl rfl dX1_soundOf_41 ?_
      refine aw_iload_n (x := ((o.1 0 (20 * l + 2)) - (o.1 0 (20 * l + 2)) / (cs_tround (o.1 0) m l) * (cs_tround (o.1 0) m l))) rfl dX1_soundOf_44 ?_
      refine aw_iload (x := (cs_tcode (o.1 0) m (o.1 0 (20 * l + 4)))) rfl dX1_soundOf_45 ?_
      refine aw_icmp_ge (tgt := 57) (by decide) dX1_soundOf_47 (fun b3 => ?_) (fun b3 => ?_)
      · skip
        refine aw_aload_n (x := ad 1 0 l) rfl dX1_soundOf_57 ?_
        refine aw_geti (q := (0, 20 * l + 3)) (x := o.1 0 (20 * l + 3)) (wv1 (by decide) hl) rfl rfl flX1_54 rfl (Or.inl rfl) dX1_soundOf_58 ?_
        rcases k4 : lk m (o.1 0 (20 * l + 3)) with _ | e4
        · skip
          refine aw_rV (As := [.int (o.1 0 (20 * l + 3))]) (S := []) (v := some (.null)) (o2 := o) (ct_X5_subscriberAt_none (lk_none G.2.2.1 (by have := G.2.1; have := G.2.2.2.1; omega) k4)) (mm_fit_of cbX5_subscriberAt (by decide) (by decide)) wq299 cvX5_subscriberAt (wv0 (by decide)) rfl rfl rfl (Nat.le_of_ble_eq_true rfl) (by decide) (by decide) rfl dX1_soundOf_61 ?_
          refine aw_astoreN (L2 := [some (.ref (ad 8 0 0)), some (.ref (ad 1 0 l)), some (.int (cs_tround (o.1 0) m l)), some (.int ((o.1 0 (20 * l + 2)) - (o.1 0 (20 * l + 2)) / (cs_tround (o.1 0) m l) * (cs_tround (o.1 0) m l))), some (.int (cs_tcode (o.1 0) m (o.1 0 (20 * l + 4)))), some (.null)]) (by decide) rfl rfl dX1_soundOf_64 ?_
          refine aw_aloadN rfl dX1_soundOf_66 ?_
          refine aw_ifnonnullN dX1_soundOf_68 ?_
          refine aw_iconst (v := 0) (by decide) dX1_soundOf_71 ?_
          exact aw_iret rfl (by decide) (by decide) dX1_soundOf_72 ⟨by (first | with_reducible rfl | (simp [cs_sound, wd_w_row, row_self, row_row, b1, b2, b3, k4]; done) | (simp_all [cs_sound, wd_w_row, row_self, row_row, b1, b2, b3, k4]; done)), by (first | with_reducible rfl | (simp [cs_sound, wd_w_row, row_self, row_row, b1, b2, b3, k4]; done) | (simp_all [cs_sound, wd_w_row, row_self, row_row, b1, b2, b3, k4]; done))⟩
        · skip
          obtain ⟨k4e, k4l⟩ := lk_some k4
          have k4b : e4 < 16 := by have := G.2.1; have := G.2.2.2.1; omega
          refine aw_rV (As := [.int (o.1 0 (20 * l + 3))]) (S := []) (v := some (.ref (ad 3 0 e4))) (o2 := o) (by rw [k4e]; exact ct_X5_subscriberAt_some G k4l) (mm_fit_of cbX5_subscriberAt (by decide) (by decide)) wq299 cvX5_subscriberAt (wv0 (by decide)) rfl rfl rfl (Nat.le_of_ble_eq_true rfl) (by decide) (by decide) rfl dX1_soundOf_61 ?_
          refine aw_astore (L2 := [some (.ref (ad 8 0 0)), some (.ref (ad 1 0 l)), some (.int (cs_tround (o.1 0) m l)), some (.int ((o.1 0 (20 * l + 2)) - (o.1 0 (20 * l + 2)) / (cs_tround (o.1 0) m l) * (cs_tround (o.1 0) m l))), some (.int (cs_tcode (o.1 0) m (o.1 0 (20 * l + 4)))), some (.ref (ad 3 0 e4))]) (by decide) rfl rfl dX1_soundOf_64 ?_
          refine aw_aload (x := ad 3 0 e4) rfl dX1_soundOf_66 ?_
          refine aw_ifnonnull (tgt := 73) (by decide) dX1_soundOf_68 ?_
          refine aw_aload (x := ad 3 0 e4) rfl dX1_soundOf_73 ?_
          refine aw_geti (q := (0, 101 + 8 * e4 + 3)) (x := o.1 0 (101 + 8 * e4 + 3)) (wv3 (by decide) k4b) rfl rfl flX1_172 rfl (Or.inl rfl) dX1_soundOf_75 ?_
          refine aw_iload_n (x := ((o.1 0 (20 * l + 2)) - (o.1 0 (20 * l + 2)) / (cs_tround (o.1 0) m l) * (cs_tround (o.1 0) m l))) rfl dX1_soundOf_78 ?_
          refine aw_iload (x := (cs_tcode (o.1 0) m (o.1 0 (20 * l + 4)))) rfl dX1_soundOf_79 ?_
          refine aw_icmp_ge (tgt := 88) (by decide) dX1_soundOf_81 (fun _ => ?_) (fun z => absurd b3 z)
          refine aw_iload_n (x := ((o.1 0 (20 * l + 2)) - (o.1 0 (20 * l + 2)) / (cs_tround (o.1 0) m l) * (cs_tround (o.1 0) m l))) rfl dX1_soundOf_88 ?_
          refine aw_iload (x := (cs_tcode (o.1 0) m (o.1 0 (20 * l + 4)))) rfl dX1_soundOf_89 ?_
          refine aw_isubz (z := ((o.1 0 (20 * l + 2)) - (o.1 0 (20 * l + 2)) / (cs_tround (o.1 0) m l) * (cs_tround (o.1 0) m l)) - (cs_tcode (o.1 0) m (o.1 0 (20 * l + 4)))) rfl dX1_soundOf_91 ?_
          refine aw_rS (v := some (.int (tc_snd (o.1 0 (101 + 8 * e4 + 3)) (((o.1 0 (20 * l + 2)) - (o.1 0 (20 * l + 2)) / (cs_tround (o.1 0) m l) * (cs_tround (o.1 0) m l)) - (cs_tcode (o.1 0) m (o.1 0 (20 * l + 4))))))) (o2 := o) (ct_X0_soundAt (g6 _ (by omega)).1 (g6 _ (by omega)).2) (mm_fit_of cbX0_soundAt (by decide) (by decide)) wq306 wq307 rfl rfl (Nat.le_of_ble_eq_true rfl) (by decide) (by decide) rfl dX1_soundOf_92 ?_
          exact aw_iret rfl (by decide) (by decide) dX1_soundOf_95 ⟨by (first | with_reducible rfl | (simp [cs_sound, wd_w_row, row_self, row_row, b1, b2, b3, k4]; done) | (simp_all [cs_sound, wd_w_row, row_self, row_row, b1, b2, b3, k4]; done)), by (first | with_reducible rfl | (simp [cs_sound, wd_w_row, row_self, row_row, b1, b2, b3, k4]; done) | (simp_all [cs_sound, wd_w_row, row_self, row_row, b1, b2, b3, k4]; done))⟩
      · skip
        refine aw_aload_n (x := ad 1 0 l) rfl dX1_soundOf_50 ?_
        refine aw_geti (q := (0, 20 * l + 4)) (x := o.1 0 (20 * l + 4)) (wv1 (by decide) hl) rfl rfl flX1_74 rfl (Or.inl rfl) dX1_soundOf_51 ?_
        refine aw_goto (tgt := 61) (by decide) dX1_soundOf_54 ?_
        rcases k5 : lk m (o.1 0 (20 * l + 4)) with _ | e5
        · skip
          refine aw_rV (As := [.int (o.1 0 (20 * l + 4))]) (S := []) (v := some (.null)) (o2 := o) (ct_X5_subscriberAt_none (lk_none G.2.2.1 (by have := G.2.1; have := G.2.2.2.1; omega) k5)) (mm_fit_of cbX5_subscriberAt (by decide) (by decide)) wq299 cvX5_subscriberAt (wv0 (by decide)) rfl rfl rfl (Nat.le_of_ble_eq_true rfl) (by decide) (by decide) rfl dX1_soundOf_61 ?_
          refine aw_astoreN (L2 := [some (.ref (ad 8 0 0)), some (.ref (ad 1 0 l)), some (.int (cs_tround (o.1 0) m l)), some (.int ((o.1 0 (20 * l + 2)) - (o.1 0 (20 * l + 2)) / (cs_tround (o.1 0) m l) * (cs_tround (o.1 0) m l))), some (.int (cs_tcode (o.1 0) m (o.1 0 (20 * l + 4)))), some (.null)]) (by decide) rfl rfl dX1_soundOf_64 ?_
          refine aw_aloadN rfl dX1_soundOf_66 ?_
          refine aw_ifnonnullN dX1_soundOf_68 ?_
          refine aw_iconst (v := 0) (by decide) dX1_soundOf_71 ?_
          exact aw_iret rfl (by decide) (by decide) dX1_soundOf_72 ⟨by (first | with_reducible rfl | (simp [cs_sound, wd_w_row, row_self, row_row, b1, b2, b3, k5]; done) | (simp_all [cs_sound, wd_w_row, row_self, row_row, b1, b2, b3, k5]; done)), by (first | with_reducible rfl | (simp [cs_sound, wd_w_row, row_self, row_row, b1, b2, b3, k5]; done) | (simp_all [cs_sound, wd_w_row, row_self, row_row, b1, b2, b3, k5]; done))⟩
        · skip
          obtain ⟨k5e, k5l⟩ := lk_some k5
          have k5b : e5 < 16 := by have := G.2.1; have := G.2.2.2.1; omega
          refine aw_rV (As := [.int (o.1 0 (20 * l + 4))]) (S := []) (v := some (.ref (ad 3 0 e5))) (o2 := o) (by rw [k5e]; exact ct_X5_subscriberAt_some G k5l) (mm_fit_of cbX5_subscriberAt (by decide) (by decide)) wq299 cvX5_subscriberAt (wv0 (by decide)) rfl rfl rfl (Nat.le_of_ble_eq_true rfl) (by decide) (by decide) rfl dX1_soundOf_61 ?_
          refine aw_astore (L2 := [some (.ref (ad 8 0 0)), some (.ref (ad 1 0 l)), some (.int (cs_tround (o.1 0) m l)), some (.int ((o.1 0 (20 * l + 2)) - (o.1 0 (20 * l + 2)) / (cs_tround (o.1 0) m l) * (cs_tround (o.1 0) m l))), some (.int (cs_tcode (o.1 0) m (o.1 0 (20 * l + 4)))), some (.ref (ad 3 0 e5))]) (by decide) rfl rfl dX1_soundOf_64 ?_
          refine aw_aload (x := ad 3 0 e5) rfl dX1_soundOf_66 ?_
          refine aw_ifnonnull (tgt := 73) (by decide) dX1_soundOf_68 ?_
          refine aw_aload (x := ad 3 0 e5) rfl dX1_soundOf_73 ?_
          refine aw_geti (q := (0, 101 + 8 * e5 + 3)) (x := o.1 0 (101 + 8 * e5 + 3)) (wv3 (by decide) k5b) rfl rfl flX1_172 rfl (Or.inl rfl) dX1_soundOf_75 ?_
          refine aw_iload_n (x := ((o.1 0 (20 * l + 2)) - (o.1 0 (20 * l + 2)) / (cs_tround (o.1 0) m l) * (cs_tround (o.1 0) m l))) rfl dX1_soundOf_78 ?_
          refine aw_iload (x := (cs_tcode (o.1 0) m (o.1 0 (20 * l + 4)))) rfl dX1_soundOf_79 ?_
          refine aw_icmp_ge (tgt := 88) (by decide) dX1_soundOf_81 (fun z => absurd z b3) (fun _ => ?_)
          refine aw_iload_n (x := ((o.1 0 (20 * l + 2)) - (o.1 0 (20 * l + 2)) / (cs_tround (o.1 0) m l) * (cs_tround (o.1 0) m l))) rfl dX1_soundOf_84 ?_
          refine aw_goto (tgt := 92) (by decide) dX1_soundOf_85 ?_
          refine aw_rS (v := some (.int (tc_snd (o.1 0 (101 + 8 * e5 + 3)) ((o.1 0 (20 * l + 2)) - (o.1 0 (20 * l + 2)) / (cs_tround (o.1 0) m l) * (cs_tround (o.1 0) m l))))) (o2 := o) (ct_X0_soundAt (g6 _ (by omega)).1 (g6 _ (by omega)).2) (mm_fit_of cbX0_soundAt (by decide) (by decide)) wq306 wq307 rfl rfl (Nat.le_of_ble_eq_true rfl) (by decide) (by decide) rfl dX1_soundOf_92 ?_
          exact aw_iret rfl (by decide) (by decide) dX1_soundOf_95 ⟨by (first | with_reducible rfl | (simp [cs_sound, wd_w_row, row_self, row_row, b1, b2, b3, k5]; done) | (simp_all [cs_sound, wd_w_row, row_self, row_row, b1, b2, b3, k5]; done)), by (first | with_reducible rfl | (simp [cs_sound, wd_w_row, row_self, row_row, b1, b2, b3, k5]; done) | (simp_all [cs_sound, wd_w_row, row_self, row_row, b1, b2, b3, k5]; done))⟩
    · skip
      refine aw_iconst (v := 0) (by decide) dX1_soundOf_21 ?_
      exact aw_iret rfl (by decide) (by decide) dX1_soundOf_22 ⟨by (first | with_reducible rfl | (simp [cs_sound, wd_w_row, row_self, row_row, b1, b2]; done) | (simp_all [cs_sound, wd_w_row, row_self, row_row, b1, b2]; done)), by (first | with_reducible rfl | (simp [cs_sound, wd_w_row, row_self, row_row, b1, b2]; done) | (simp_all [cs_sound, wd_w_row, row_self, row_row, b1, b2]; done))⟩
def cs_turn (B : Nat → Int32) (n m l : Nat) : Nat → Int32 :=
  if B (20 * l + 1) = 1 ∧ B (20 * l + 2) = 12 then cs_comeTo B l 5
  else if cs_rung B l ≠ 0 ∧ cs_lost B m l ≠ 0 then cs_end (cs_inc B 233) n m l
  else if B (20 * l + 6) ≠ 0 ∨ B (20 * l + 1) = 8 then (if cs_over (cs_units B m l) n m l = 0 then cs_units B m l else cs_end (cs_units B m l) n m l)
  else B
theorem ct_X1_turn {ad : Nat → Nat → Nat → Nat} {o : wd_S} {n m l : Nat} (G : cg (o.1 0) n m) (hl : l < 5) : CT ad MX1_takeTurn [.ref (ad 8 0 0), .ref (ad 1 0 l)] o (RT none (wd_row o 0 (cs_turn (o.1 0) n m l))) := by
  obtain ⟨g1, g2, g3, g4, g5, g6⟩ := id G
  refine CT.of (L := [some (.ref (ad 8 0 0)), some (.ref (ad 1 0 l))]) rfl rfl (by decide) (Nat.le_of_ble_eq_true rfl) rfl ?_
  refine aw_aload_n (x := ad 1 0 l) rfl dX1_takeTurn_0 ?_
  refine aw_geti (q := (0, 20 * l + 1)) (x := o.1 0 (20 * l + 1)) (wv1 (by decide) hl) rfl rfl flX1_37 rfl (Or.inl rfl) dX1_takeTurn_1 ?_
  refine aw_iconst (v := 1) (by decide) dX1_takeTurn_4 ?_
  refine aw_icmp_ne (tgt := 25) (by decide) dX1_takeTurn_5 (fun b1 => ?_) (fun b1 => ?_)
  · skip
    refine aw_aload_n (x := ad 1 0 l) rfl dX1_takeTurn_25 ?_
    refine aw_rV (As := []) (S := []) (v := some (.int (cs_rung (o.1 0) l))) (o2 := o) (ct_X3_isRung (by decide) (by omega)) (mm_fit_of cbX3_isRung (by decide) (by decide)) wq287 cvX3_isRung (wv1 (by decide) hl) rfl rfl rfl (Nat.le_of_ble_eq_true rfl) (by decide) (by decide) rfl dX1_takeTurn_26 ?_
    refine aw_if_eq (tgt := 61) (by decide) dX1_takeTurn_29 (fun b2 => ?_) (fun b2 => ?_)
    · skip
      refine aw_aload_n (x := ad 1 0 l) rfl dX1_takeTurn_61 ?_
      refine aw_geti (q := (0, 20 * l + 6)) (x := o.1 0 (20 * l + 6)) (wv1 (by decide) hl) rfl rfl flX1_67 rfl (Or.inr rfl) dX1_takeTurn_62 ?_
      refine aw_if_ne (tgt := 77) (by decide) dX1_takeTurn_65 (fun b3 => ?_) (fun b3 => ?_)
      · skip
        refine aw_aload_n (x := ad 8 0 0) rfl dX1_takeTurn_77 ?_
        refine aw_aload_n (x := ad 1 0 l) rfl dX1_takeTurn_78 ?_
        refine aw_rV (As := [.ref (ad 1 0 l)]) (S := []) (v := none) (o2 := (wd_row o 0 (cs_units (o.1 0) m l))) (ct_X1_units G (by omega)) (mm_fit_of cbX1_countUnits (by decide) (by decide)) wq662 cvX1_countUnits wv8 rfl rfl rfl (Nat.le_of_ble_eq_true rfl) (by decide) (by decide) rfl dX1_takeTurn_79 ?_
        obtain ⟨o1, ho1⟩ : ∃ z, z = (wd_row o 0 (cs_units (o.1 0) m l)) := ⟨_, rfl⟩
        rw [← ho1]
        have Go1 : cg (o1.1 0) n m := by rw [ho1]; rw [row_self]; exact cg_units G
        refine aw_aload_n (x := ad 8 0 0) rfl dX1_takeTurn_82 ?_
        refine aw_aload_n (x := ad 1 0 l) rfl dX1_takeTurn_83 ?_
        refine aw_rV (As := [.ref (ad 1 0 l)]) (S := []) (v := some (.int (cs_over (o1.1 0) n m l))) (o2 := o1) (ct_X1_over Go1 (by omega)) (mm_fit_of cbX1_isOverLimit (by decide) (by decide)) wq666 cvX1_isOverLimit wv8 rfl rfl rfl (Nat.le_of_ble_eq_true rfl) (by decide) (by decide) rfl dX1_takeTurn_84 ?_
        refine aw_if_eq (tgt := 95) (by decide) dX1_takeTurn_87 (fun b4 => ?_) (fun b4 => ?_)
        · skip
          exact aw_vret rfl (by decide) (by decide) dX1_takeTurn_95 ⟨rfl, by (subst ho1; first | with_reducible rfl | (simp [cs_turn, cs_inc, row_id, wd_w_row, row_self, row_row, b1, b2, b3, b4]; done) | (simp_all [cs_turn, cs_inc, row_id, wd_w_row, row_self, row_row, b1, b2, b3, b4]; done))⟩
        · skip
          refine aw_aload_n (x := ad 8 0 0) rfl dX1_takeTurn_90 ?_
          refine aw_aload_n (x := ad 1 0 l) rfl dX1_takeTurn_91 ?_
          refine aw_rV (As := [.ref (ad 1 0 l)]) (S := []) (v := none) (o2 := (wd_row o1 0 (cs_end (o1.1 0) n m l))) (ct_X1_endCall Go1 (by omega)) (mm_fit_of cbX1_endCall (by decide) (by decide)) wq613 cvX1_endCall wv8 rfl rfl rfl (Nat.le_of_ble_eq_true rfl) (by decide) (by decide) rfl dX1_takeTurn_92 ?_
          exact aw_vret rfl (by decide) (by decide) dX1_takeTurn_95 ⟨rfl, by (subst ho1; first | with_reducible rfl | (simp [cs_turn, cs_inc, row_id, wd_w_row, row_self, row_row, b1, b2, b3, b4]; done) | (simp_all [cs_turn, cs_inc, row_id, wd_w_row, row_self, row_row, b1, b2, b3, b4]; done))⟩
      · skip
        refine aw_aload_n (x := ad 1 0 l) rfl dX1_takeTurn_68 ?_
        refine aw_geti (q := (0, 20 * l + 1)) (x := o.1 0 (20 * l + 1)) (wv1 (by decide) hl) rfl rfl flX1_37 rfl (Or.inl rfl) dX1_takeTurn_69 ?_
        refine aw_bipush (v := 8) (by decide) dX1_takeTurn_72 ?_
        refine aw_icmp_ne (tgt := 95) (by decide) dX1_takeTurn_74 (fun b5 => ?_) (fun b5 => ?_)
        · skip
          exact aw_vret rfl (by decide) (by decide) dX1_takeTurn_95 ⟨rfl, by (first | with_reducible rfl | (simp [cs_turn, cs_inc, row_id, wd_w_row, row_self, row_row, b1, b2, b3, b5]; done) | (simp_all [cs_turn, cs_inc, row_id, wd_w_row, row_self, row_row, b1, b2, b3, b5]; done))⟩
        · skip
          refine aw_aload_n (x := ad 8 0 0) rfl dX1_takeTurn_77 ?_
          refine aw_aload_n (x := ad 1 0 l) rfl dX1_takeTurn_78 ?_
          refine aw_rV (As := [.ref (ad 1 0 l)]) (S := []) (v := none) (o2 := (wd_row o 0 (cs_units (o.1 0) m l))) (ct_X1_units G (by omega)) (mm_fit_of cbX1_countUnits (by decide) (by decide)) wq662 cvX1_countUnits wv8 rfl rfl rfl (Nat.le_of_ble_eq_true rfl) (by decide) (by decide) rfl dX1_takeTurn_79 ?_
          obtain ⟨o2, ho2⟩ : ∃ z, z = (wd_row o 0 (cs_units (o.1 0) m l)) := ⟨_, rfl⟩
          rw [← ho2]
          have Go2 : cg (o2.1 0) n m := by rw [ho2]; rw [row_self]; exact cg_units G
          refine aw_aload_n (x := ad 8 0 0) rfl dX1_takeTurn_82 ?_
          refine aw_aload_n (x := ad 1 0 l) rfl dX1_takeTurn_83 ?_
          refine aw_rV (As := [.ref (ad 1 0 l)]) (S := []) (v := some (.int (cs_over (o2.1 0) n m l))) (o2 := o2) (ct_X1_over Go2 (by omega)) (mm_fit_of cbX1_isOverLimit (by decide) (by decide)) wq666 cvX1_isOverLimit wv8 rfl rfl rfl (Nat.le_of_ble_eq_true rfl) (by decide) (by decide) rfl dX1_takeTurn_84 ?_
          refine aw_if_eq (tgt := 95) (by decide) dX1_takeTurn_87 (fun b6 => ?_) (fun b6 => ?_)
          · skip
            exact aw_vret rfl (by decide) (by decide) dX1_takeTurn_95 ⟨rfl, by (subst ho2; first | with_reducible rfl | (simp [cs_turn, cs_inc, row_id, wd_w_row, row_self, row_row, b1, b2, b3, b5, b6]; done) | (simp_all [cs_turn, cs_inc, row_id, wd_w_row, row_self, row_row, b1, b2, b3, b5, b6]; done))⟩
          · skip
            refine aw_aload_n (x := ad 8 0 0) rfl dX1_takeTurn_90 ?_
            refine aw_aload_n (x := ad 1 0 l) rfl dX1_takeTurn_91 ?_
            refine aw_rV (As := [.ref (ad 1 0 l)]) (S := []) (v := none) (o2 := (wd_row o2 0 (cs_end (o2.1 0) n m l))) (ct_X1_endCall Go2 (by omega)) (mm_fit_of cbX1_endCall (by decide) (by decide)) wq613 cvX1_endCall wv8 rfl rfl rfl (Nat.le_of_ble_eq_true rfl) (by decide) (by decide) rfl dX1_takeTurn_92 ?_
            exact aw_vret rfl (by decide) (by decide) dX1_takeTurn_95 ⟨rfl, by (subst ho2; first | with_reducible rfl | (simp [cs_turn, cs_inc, row_id, wd_w_row, row_self, row_row, b1, b2, b3, b5, b6]; done) | (simp_all [cs_turn, cs_inc, row_id, wd_w_row, row_self, row_row, b1, b2, b3, b5, b6]; done))⟩
    · skip
      refine aw_aload_n (x := ad 8 0 0) rfl dX1_takeTurn_32 ?_
      refine aw_aload_n (x := ad 1 0 l) rfl dX1_takeTurn_33 ?_
      refine aw_rV (As := [.ref (ad 1 0 l)]) (S := []) (v := some (.int (cs_lost (o.1 0) m l))) (o2 := o) (ct_X1_lost G (by omega)) (mm_fit_of cbX1_isLost (by decide) (by decide)) wq658 cvX1_isLost wv8 rfl rfl rfl (Nat.le_of_ble_eq_true rfl) (by decide) (by decide) rfl dX1_takeTurn_34 ?_
      refine aw_if_eq (tgt := 61) (by decide) dX1_takeTurn_37 (fun b7 => ?_) (fun b7 => ?_)
      · skip
        refine aw_aload_n (x := ad 1 0 l) rfl dX1_takeTurn_61 ?_
        refine aw_geti (q := (0, 20 * l + 6)) (x := o.1 0 (20 * l + 6)) (wv1 (by decide) hl) rfl rfl flX1_67 rfl (Or.inr rfl) dX1_takeTurn_62 ?_
        refine aw_if_ne (tgt := 77) (by decide) dX1_takeTurn_65 (fun b8 => ?_) (fun b8 => ?_)
        · skip
          refine aw_aload_n (x := ad 8 0 0) rfl dX1_takeTurn_77 ?_
          refine aw_aload_n (x := ad 1 0 l) rfl dX1_takeTurn_78 ?_
          refine aw_rV (As := [.ref (ad 1 0 l)]) (S := []) (v := none) (o2 := (wd_row o 0 (cs_units (o.1 0) m l))) (ct_X1_units G (by omega)) (mm_fit_of cbX1_countUnits (by decide) (by decide)) wq662 cvX1_countUnits wv8 rfl rfl rfl (Nat.le_of_ble_eq_true rfl) (by decide) (by decide) rfl dX1_takeTurn_79 ?_
          obtain ⟨o3, ho3⟩ : ∃ z, z = (wd_row o 0 (cs_units (o.1 0) m l)) := ⟨_, rfl⟩
          rw [← ho3]
          have Go3 : cg (o3.1 0) n m := by rw [ho3]; rw [row_self]; exact cg_units G
          refine aw_aload_n (x := ad 8 0 0) rfl dX1_takeTurn_82 ?_
          refine aw_aload_n (x := ad 1 0 l) rfl dX1_takeTurn_83 ?_
          refine aw_rV (As := [.ref (ad 1 0 l)]) (S := []) (v := some (.int (cs_over (o3.1 0) n m l))) (o2 := o3) (ct_X1_over Go3 (by omega)) (mm_fit_of cbX1_isOverLimit (by decide) (by decide)) wq666 cvX1_isOverLimit wv8 rfl rfl rfl (Nat.le_of_ble_eq_true rfl) (by decide) (by decide) rfl dX1_takeTurn_84 ?_
          refine aw_if_eq (tgt := 95) (by decide) dX1_takeTurn_87 (fun b9 => ?_) (fun b9 => ?_)
          · skip
            exact aw_vret rfl (by decide) (by decide) dX1_takeTurn_95 ⟨rfl, by (subst ho3; first | with_reducible rfl | (simp [cs_turn, cs_inc, row_id, wd_w_row, row_self, row_row, b1, b2, b7, b8, b9]; done) | (simp_all [cs_turn, cs_inc, row_id, wd_w_row, row_self, row_row, b1, b2, b7, b8, b9]; done))⟩
          · skip
            refine aw_aload_n (x := ad 8 0 0) rfl dX1_takeTurn_90 ?_
            refine aw_aload_n (x := ad 1 0 l) rfl dX1_takeTurn_91 ?_
            refine aw_rV (As := [.ref (ad 1 0 l)]) (S := []) (v := none) (o2 := (wd_row o3 0 (cs_end (o3.1 0) n m l))) (ct_X1_endCall Go3 (by omega)) (mm_fit_of cbX1_endCall (by decide) (by decide)) wq613 cvX1_endCall wv8 rfl rfl rfl (Nat.le_of_ble_eq_true rfl) (by decide) (by decide) rfl dX1_takeTurn_92 ?_
            exact aw_vret rfl (by decide) (by decide) dX1_takeTurn_95 ⟨rfl, by (subst ho3; first | with_reducible rfl | (simp [cs_turn, cs_inc, row_id, wd_w_row, row_self, row_row, b1, b2, b7, b8, b9]; done) | (simp_all [cs_turn, cs_inc, row_id, wd_w_row, row_self, row_row, b1, b2, b7, b8, b9]; done))⟩
        · skip
          refine aw_aload_n (x := ad 1 0 l) rfl dX1_takeTurn_68 ?_
          refine aw_geti (q := (0, 20 * l + 1)) (x := o.1 0 (20 * l + 1)) (wv1 (by decide) hl) rfl rfl flX1_37 rfl (Or.inl rfl) dX1_takeTurn_69 ?_
          refine aw_bipush (v := 8) (by decide) dX1_takeTurn_72 ?_
          refine aw_icmp_ne (tgt := 95) (by decide) dX1_takeTurn_74 (fun b10 => ?_) (fun b10 => ?_)
          · skip
            exact aw_vret rfl (by decide) (by decide) dX1_takeTurn_95 ⟨rfl, by (first | with_reducible rfl | (simp [cs_turn, cs_inc, row_id, wd_w_row, row_self, row_row, b1, b2, b7, b8, b10]; done) | (simp_all [cs_turn, cs_inc, row_id, wd_w_row, row_self, row_row, b1, b2, b7, b8, b10]; done))⟩
          · skip
            refine aw_aload_n (x := ad 8 0 0) rfl dX1_takeTurn_77 ?_
            refine aw_aload_n (x := ad 1 0 l) rfl dX1_takeTurn_78 ?_
            refine aw_rV (As := [.ref (ad 1 0 l)]) (S := []) (v := none) (o2 := (wd_row o 0 (cs_units (o.1 0) m l))) (ct_X1_units G (by omega)) (mm_fit_of cbX1_countUnits (by decide) (by decide)) wq662 cvX1_countUnits wv8 rfl rfl rfl (Nat.le_of_ble_eq_true rfl) (by decide) (by decide) rfl dX1_takeTurn_79 ?_
            obtain ⟨o4, ho4⟩ : ∃ z, z = (wd_row o 0 (cs_units (o.1 0) m l)) := ⟨_, rfl⟩
            rw [← ho4]
            have Go4 : cg (o4.1 0) n m := by rw [ho4]; rw [row_self]; exact cg_units G
            refine aw_aload_n (x := ad 8 0 0) rfl dX1_takeTurn_82 ?_
            refine aw_aload_n (x := ad 1 0 l) rfl dX1_takeTurn_83 ?_
            refine aw_rV (As := [.ref (ad 1 0 l)]) (S := []) (v := some (.int (cs_over (o4.1 0) n m l))) (o2 := o4) (ct_X1_over Go4 (by omega)) (mm_fit_of cbX1_isOverLimit (by decide) (by decide)) wq666 cvX1_isOverLimit wv8 rfl rfl rfl (Nat.le_of_ble_eq_true rfl) (by decide) (by decide) rfl dX1_takeTurn_84 ?_
            refine aw_if_eq (tgt := 95) (by decide) dX1_takeTurn_87 (fun b11 => ?_) (fun b11 => ?_)
            · skip
              exact aw_vret rfl (by decide) (by decide) dX1_takeTurn_95 ⟨rfl, by (subst ho4; first | with_reducible rfl | (simp [cs_turn, cs_inc, row_id, wd_w_row, row_self, row_row, b1, b2, b7, b8, b10, b11]; done) | (simp_all [cs_turn, cs_inc, row_id, wd_w_row, row_self, row_row, b1, b2, b7, b8, b10, b11]; done))⟩
            · skip
              refine aw_aload_n (x := ad 8 0 0) rfl dX1_takeTurn_90 ?_
              refine aw_aload_n (x := ad 1 0 l) rfl dX1_takeTurn_91 ?_
              refine aw_rV (As := [.ref (ad 1 0 l)]) (S := []) (v := none) (o2 := (wd_row o4 0 (cs_end (o4.1 0) n m l))) (ct_X1_endCall Go4 (by omega)) (mm_fit_of cbX1_endCall (by decide) (by decide)) wq613 cvX1_endCall wv8 rfl rfl rfl (Nat.le_of_ble_eq_true rfl) (by decide) (by decide) rfl dX1_takeTurn_92 ?_
              exact aw_vret rfl (by decide) (by decide) dX1_takeTurn_95 ⟨rfl, by (subst ho4; first | with_reducible rfl | (simp [cs_turn, cs_inc, row_id, wd_w_row, row_self, row_row, b1, b2, b7, b8, b10, b11]; done) | (simp_all [cs_turn, cs_inc, row_id, wd_w_row, row_self, row_row, b1, b2, b7, b8, b10, b11]; done))⟩
      · skip
        refine aw_aload_n (x := ad 8 0 0) rfl dX1_takeTurn_40 ?_
        refine aw_getr (q := (0, 0, 0)) wv8 rfl flX1_9 rfl rfl dX1_takeTurn_41 ?_
        refine aw_getr (q := (4, 0, 0)) (wv0 (by decide)) rfl flX1_70 rfl rfl dX1_takeTurn_44 ?_
        refine aw_iconst (v := 2) (by decide) dX1_takeTurn_47 ?_
        refine aw_dup2 rfl rfl dX1_takeTurn_48 ?_
        refine aw_ild (x := 2) (q := (0, 233)) (y := o.1 0 233) (by decide) (wv4 (by decide)) rfl rfl (Nat.le_of_ble_eq_true rfl) rfl dX1_takeTurn_49 ?_
        refine aw_iconst (v := 1) (by decide) dX1_takeTurn_50 ?_
        refine aw_iaddz (z := (o.1 0 233) + 1) rfl dX1_takeTurn_51 ?_
        refine aw_ist (x := 2) (q := (0, 233)) (y := (o.1 0 233) + 1) (by decide) (wv4 (by decide)) rfl (Nat.le_of_ble_eq_true rfl) rfl dX1_takeTurn_52 ?_
        refine aw_aload_n (x := ad 8 0 0) rfl dX1_takeTurn_53 ?_
        refine aw_aload_n (x := ad 1 0 l) rfl dX1_takeTurn_54 ?_
        obtain ⟨o5, ho5⟩ : ∃ z, z = (wd_w o 0 233 ((o.1 0 233) + 1)) := ⟨_, rfl⟩
        rw [← ho5]
        have Go5 : cg (o5.1 0) n m := by rw [ho5]; simp only [wd_w_row, row_self]; exact cg_upd (G) (by omega) (by omega) (fun _ _ => ⟨by omega, by omega⟩)
        refine aw_rV (As := [.ref (ad 1 0 l)]) (S := []) (v := none) (o2 := (wd_row o5 0 (cs_end (o5.1 0) n m l))) (ct_X1_endCall Go5 (by omega)) (mm_fit_of cbX1_endCall (by decide) (by decide)) wq613 cvX1_endCall wv8 rfl rfl rfl (Nat.le_of_ble_eq_true rfl) (by decide) (by decide) rfl dX1_takeTurn_55 ?_
        refine aw_goto (tgt := 95) (by decide) dX1_takeTurn_58 ?_
        exact aw_vret rfl (by decide) (by decide) dX1_takeTurn_95 ⟨rfl, by (subst ho5; first | with_reducible rfl | (simp [cs_turn, cs_inc, row_id, wd_w_row, row_self, row_row, b1, b2, b7]; done) | (simp_all [cs_turn, cs_inc, row_id, wd_w_row, row_self, row_row, b1, b2, b7]; done))⟩
  · skip
    refine aw_aload_n (x := ad 1 0 l) rfl dX1_takeTurn_8 ?_
    refine aw_geti (q := (0, 20 * l + 2)) (x := o.1 0 (20 * l + 2)) (wv1 (by decide) hl) rfl rfl flX1_125 rfl (Or.inl rfl) dX1_takeTurn_9 ?_
    refine aw_bipush (v := 12) (by decide) dX1_takeTurn_12 ?_
    refine aw_icmp_ne (tgt := 25) (by decide) dX1_takeTurn_14 (fun b12 => ?_) (fun b12 => ?_)
    · skip
      refine aw_aload_n (x := ad 1 0 l) rfl dX1_takeTurn_25 ?_
      refine aw_rV (As := []) (S := []) (v := some (.int (cs_rung (o.1 0) l))) (o2 := o) (ct_X3_isRung (by decide) (by omega)) (mm_fit_of cbX3_isRung (by decide) (by decide)) wq287 cvX3_isRung (wv1 (by decide) hl) rfl rfl rfl (Nat.le_of_ble_eq_true rfl) (by decide) (by decide) rfl dX1_takeTurn_26 ?_
      refine aw_if_eq (tgt := 61) (by decide) dX1_takeTurn_29 (fun b13 => ?_) (fun b13 => ?_)
      · skip
        refine aw_aload_n (x := ad 1 0 l) rfl dX1_takeTurn_61 ?_
        refine aw_geti (q := (0, 20 * l + 6)) (x := o.1 0 (20 * l + 6)) (wv1 (by decide) hl) rfl rfl flX1_67 rfl (Or.inr rfl) dX1_takeTurn_62 ?_
        refine aw_if_ne (tgt := 77) (by decide) dX1_takeTurn_65 (fun b14 => ?_) (fun b14 => ?_)
        · skip
          refine aw_aload_n (x := ad 8 0 0) rfl dX1_takeTurn_77 ?_
          refine aw_aload_n (x := ad 1 0 l) rfl dX1_takeTurn_78 ?_
          refine aw_rV (As := [.ref (ad 1 0 l)]) (S := []) (v := none) (o2 := (wd_row o 0 (cs_units (o.1 0) m l))) (ct_X1_units G (by omega)) (mm_fit_of cbX1_countUnits (by decide) (by decide)) wq662 cvX1_countUnits wv8 rfl rfl rfl (Nat.le_of_ble_eq_true rfl) (by decide) (by decide) rfl dX1_takeTurn_79 ?_
          obtain ⟨o6, ho6⟩ : ∃ z, z = (wd_row o 0 (cs_units (o.1 0) m l)) := ⟨_, rfl⟩
          rw [← ho6]
          have Go6 : cg (o6.1 0) n m := by rw [ho6]; rw [row_self]; exact cg_units G
          refine aw_aload_n (x := ad 8 0 0) rfl dX1_takeTurn_82 ?_
          refine aw_aload_n (x := ad 1 0 l) rfl dX1_takeTurn_83 ?_
          refine aw_rV (As := [.ref (ad 1 0 l)]) (S := []) (v := some (.int (cs_over (o6.1 0) n m l))) (o2 := o6) (ct_X1_over Go6 (by omega)) (mm_fit_of cbX1_isOverLimit (by decide) (by decide)) wq666 cvX1_isOverLimit wv8 rfl rfl rfl (Nat.le_of_ble_eq_true rfl) (by decide) (by decide) rfl dX1_takeTurn_84 ?_
          refine aw_if_eq (tgt := 95) (by decide) dX1_takeTurn_87 (fun b15 => ?_) (fun b15 => ?_)
          · skip
            exact aw_vret rfl (by decide) (by decide) dX1_takeTurn_95 ⟨rfl, by (subst ho6; first | with_reducible rfl | (simp [cs_turn, cs_inc, row_id, wd_w_row, row_self, row_row, b1, b12, b13, b14, b15]; done) | (simp_all [cs_turn, cs_inc, row_id, wd_w_row, row_self, row_row, b1, b12, b13, b14, b15]; done))⟩
          · skip
            refine aw_aload_n (x := ad 8 0 0) rfl dX1_takeTurn_90 ?_
            refine aw_aload_n (x := ad 1 0 l) rfl dX1_takeTurn_91 ?_
            refine aw_rV (As := [.ref (ad 1 0 l)]) (S := []) (v := none) (o2 := (wd_row o6 0 (cs_end (o6.1 0) n m l))) (ct_X1_endCall Go6 (by omega)) (mm_fit_of cbX1_endCall (by decide) (by decide)) wq613 cvX1_endCall wv8 rfl rfl rfl (Nat.le_of_ble_eq_true rfl) (by decide) (by decide) rfl dX1_takeTurn_92 ?_
            exact aw_vret rfl (by decide) (by decide) dX1_takeTurn_95 ⟨rfl, by (subst ho6; first | with_reducible rfl | (simp [cs_turn, cs_inc, row_id, wd_w_row, row_self, row_row, b1, b12, b13, b14, b15]; done) | (simp_all [cs_turn, cs_inc, row_id, wd_w_row, row_self, row_row, b1, b12, b13, b14, b15]; done))⟩
        · skip
          refine aw_aload_n (x := ad 1 0 l) rfl dX1_takeTurn_68 ?_
          refine aw_geti (q := (0, 20 * l + 1)) (x := o.1 0 (20 * l + 1)) (wv1 (by decide) hl) rfl rfl flX1_37 rfl (Or.inl rfl) dX1_takeTurn_69 ?_
          refine aw_bipush (v := 8) (by decide) dX1_takeTurn_72 ?_
          refine aw_icmp_ne (tgt := 95) (by decide) dX1_takeTurn_74 (fun b16 => ?_) (fun b16 => ?_)
          · skip
            exact aw_vret rfl (by decide) (by decide) dX1_takeTurn_95 ⟨rfl, by (first | with_reducible rfl | (simp [cs_turn, cs_inc, row_id, wd_w_row, row_self, row_row, b1, b12, b13, b14, b16]; done) | (simp_all [cs_turn, cs_inc, row_id, wd_w_row, row_self, row_row, b1, b12, b13, b14, b16]; done))⟩
          · skip
            refine aw_aload_n (x := ad 8 0 0) rfl dX1_takeTurn_77 ?_
            refine aw_aload_n (x := ad 1 0 l) rfl dX1_takeTurn_78 ?_
            refine aw_rV (As := [.ref (ad 1 0 l)]) (S := []) (v := none) (o2 := (wd_row o 0 (cs_units (o.1 0) m l))) (ct_X1_units G (by omega)) (mm_fit_of cbX1_countUnits (by decide) (by decide)) wq662 cvX1_countUnits wv8 rfl rfl rfl (Nat.le_of_ble_eq_true rfl) (by decide) (by decide) rfl dX1_takeTurn_79 ?_
            obtain ⟨o7, ho7⟩ : ∃ z, z = (wd_row o 0 (cs_units (o.1 0) m l)) := ⟨_, rfl⟩
            rw [← ho7]
            have Go7 : cg (o7.1 0) n m := by rw [ho7]; rw [row_self]; exact cg_units G
            refine aw_aload_n (x := ad 8 0 0) rfl dX1_takeTurn_82 ?_
            refine aw_aload_n (x := ad 1 0 l) rfl dX1_takeTurn_83 ?_
            refine aw_rV (As := [.ref (ad 1 0 l)]) (S := []) (v := some (.int (cs_over (o7.1 0) n m l))) (o2 := o7) (ct_X1_over Go7 (by omega)) (mm_fit_of cbX1_isOverLimit (by decide) (by decide)) wq666 cvX1_isOverLimit wv8 rfl rfl rfl (Nat.le_of_ble_eq_true rfl) (by decide) (by decide) rfl dX1_takeTurn_84 ?_
            refine aw_if_eq (tgt := 95) (by decide) dX1_takeTurn_87 (fun b17 => ?_) (fun b17 => ?_)
            · skip
              exact aw_vret rfl (by decide) (by decide) dX1_takeTurn_95 ⟨rfl, by (subst ho7; first | with_reducible rfl | (simp [cs_turn, cs_inc, row_id, wd_w_row, row_self, row_row, b1, b12, b13, b14, b16, b17]; done) | (simp_all [cs_turn, cs_inc, row_id, wd_w_row, row_self, row_row, b1, b12, b13, b14, b16, b17]; done))⟩
            · skip
              refine aw_aload_n (x := ad 8 0 0) rfl dX1_takeTurn_90 ?_
              refine aw_aload_n (x := ad 1 0 l) rfl dX1_takeTurn_91 ?_
              refine aw_rV (As := [.ref (ad 1 0 l)]) (S := []) (v := none) (o2 := (wd_row o7 0 (cs_end (o7.1 0) n m l))) (ct_X1_endCall Go7 (by omega)) (mm_fit_of cbX1_endCall (by decide) (by decide)) wq613 cvX1_endCall wv8 rfl rfl rfl (Nat.le_of_ble_eq_true rfl) (by decide) (by decide) rfl dX1_takeTurn_92 ?_
              exact aw_vret rfl (by decide) (by decide) dX1_takeTurn_95 ⟨rfl, by (subst ho7; first | with_reducible rfl | (simp [cs_turn, cs_inc, row_id, wd_w_row, row_self, row_row, b1, b12, b13, b14, b16, b17]; done) | (simp_all [cs_turn, cs_inc, row_id, wd_w_row, row_self, row_row, b1, b12, b13, b14, b16, b17]; done))⟩
      · skip
        refine aw_aload_n (x := ad 8 0 0) rfl dX1_takeTurn_32 ?_
        refine aw_aload_n (x := ad 1 0 l) rfl dX1_takeTurn_33 ?_
        refine aw_rV (As := [.ref (ad 1 0 l)]) (S := []) (v := some (.int (cs_lost (o.1 0) m l))) (o2 := o) (ct_X1_lost G (by omega)) (mm_fit_of cbX1_isLost (by decide) (by decide)) wq658 cvX1_isLost wv8 rfl rfl rfl (Nat.le_of_ble_eq_true rfl) (by decide) (by decide) rfl dX1_takeTurn_34 ?_
        refine aw_if_eq (tgt := 61) (by decide) dX1_takeTurn_37 (fun b18 => ?_) (fun b18 => ?_)
        · skip
          refine aw_aload_n (x := ad 1 0 l) rfl dX1_takeTurn_61 ?_
          refine aw_geti (q := (0, 20 * l + 6)) (x := o.1 0 (20 * l + 6)) (wv1 (by decide) hl) rfl rfl flX1_67 rfl (Or.inr rfl) dX1_takeTurn_62 ?_
          refine aw_if_ne (tgt := 77) (by decide) dX1_takeTurn_65 (fun b19 => ?_) (fun b19 => ?_)
          · skip
            refine aw_aload_n (x := ad 8 0 0) rfl dX1_takeTurn_77 ?_
            refine aw_aload_n (x := ad 1 0 l) rfl dX1_takeTurn_78 ?_
            refine aw_rV (As := [.ref (ad 1 0 l)]) (S := []) (v := none) (o2 := (wd_row o 0 (cs_units (o.1 0) m l))) (ct_X1_units G (by omega)) (mm_fit_of cbX1_countUnits (by decide) (by decide)) wq662 cvX1_countUnits wv8 rfl rfl rfl (Nat.le_of_ble_eq_true rfl) (by decide) (by decide) rfl dX1_takeTurn_79 ?_
            obtain ⟨o8, ho8⟩ : ∃ z, z = (wd_row o 0 (cs_units (o.1 0) m l)) := ⟨_, rfl⟩
            rw [← ho8]
            have Go8 : cg (o8.1 0) n m := by rw [ho8]; rw [row_self]; exact cg_units G
            refine aw_aload_n (x := ad 8 0 0) rfl dX1_takeTurn_82 ?_
            refine aw_aload_n (x := ad 1 0 l) rfl dX1_takeTurn_83 ?_
            refine aw_rV (As := [.ref (ad 1 0 l)]) (S := []) (v := some (.int (cs_over (o8.1 0) n m l))) (o2 := o8) (ct_X1_over Go8 (by omega)) (mm_fit_of cbX1_isOverLimit (by decide) (by decide)) wq666 cvX1_isOverLimit wv8 rfl rfl rfl (Nat.le_of_ble_eq_true rfl) (by decide) (by decide) rfl dX1_takeTurn_84 ?_
            refine aw_if_eq (tgt := 95) (by decide) dX1_takeTurn_87 (fun b20 => ?_) (fun b20 => ?_)
            · skip
              exact aw_vret rfl (by decide) (by decide) dX1_takeTurn_95 ⟨rfl, by (subst ho8; first | with_reducible rfl | (simp [cs_turn, cs_inc, row_id, wd_w_row, row_self, row_row, b1, b12, b13, b18, b19, b20]; done) | (simp_all [cs_turn, cs_inc, row_id, wd_w_row, row_self, row_row, b1, b12, b13, b18, b19, b20]; done))⟩
            · skip
              refine aw_aload_n (x := ad 8 0 0) rfl dX1_takeTurn_90 ?_
              refine aw_aload_n (x := ad 1 0 l) rfl dX1_takeTurn_91 ?_
              refine aw_rV (As := [.ref (ad 1 0 l)]) (S := []) (v := none) (o2 := (wd_row o8 0 (cs_end (o8.1 0) n m l))) (ct_X1_endCall Go8 (by omega)) (mm_fit_of cbX1_endCall (by decide) (by decide)) wq613 cvX1_endCall wv8 rfl rfl rfl (Nat.le_of_ble_eq_true rfl) (by decide) (by decide) rfl dX1_takeTurn_92 ?_
              exact aw_vret rfl (by decide) (by decide) dX1_takeTurn_95 ⟨rfl, by (subst ho8; first | with_reducible rfl | (simp [cs_turn, cs_inc, row_id, wd_w_row, row_self, row_row, b1, b12, b13, b18, b19, b20]; done) | (simp_all [cs_turn, cs_inc, row_id, wd_w_row, row_self, row_row, b1, b12, b13, b18, b19, b20]; done))⟩
          · skip
            refine aw_aload_n (x := ad 1 0 l) rfl dX1_takeTurn_68 ?_
            refine aw_geti (q := (0, 20 * l + 1)) (x := o.1 0 (20 * l + 1)) (wv1 (by decide) hl) rfl rfl flX1_37 rfl (Or.inl rfl) dX1_takeTurn_69 ?_
            refine aw_bipush (v := 8) (by decide) dX1_takeTurn_72 ?_
            refine aw_icmp_ne (tgt := 95) (by decide) dX1_takeTurn_74 (fun b21 => ?_) (fun b21 => ?_)
            · skip
              exact aw_vret rfl (by decide) (by decide) dX1_takeTurn_95 ⟨rfl, by (first | with_reducible rfl | (simp [cs_turn, cs_inc, row_id, wd_w_row, row_self, row_row, b1, b12, b13, b18, b19, b21]; done) | (simp_all [cs_turn, cs_inc, row_id, wd_w_row, row_self, row_row, b1, b12, b13, b18, b19, b21]; done))⟩
            · skip
              refine aw_aload_n (x := ad 8 0 0) rfl dX1_takeTurn_77 ?_
              refine aw_aload_n (x := ad 1 0 l) rfl dX1_takeTurn_78 ?_
              refine aw_rV (As := [.ref (ad 1 0 l)]) (S := []) (v := none) (o2 := (wd_row o 0 (cs_units (o.1 0) m l))) (ct_X1_units G (by omega)) (mm_fit_of cbX1_countUnits (by decide) (by decide)) wq662 cvX1_countUnits wv8 rfl rfl rfl (Nat.le_of_ble_eq_true rfl) (by decide) (by decide) rfl dX1_takeTurn_79 ?_
              obtain ⟨o9, ho9⟩ : ∃ z, z = (wd_row o 0 (cs_units (o.1 0) m l)) := ⟨_, rfl⟩
              rw [← ho9]
              have Go9 : cg (o9.1 0) n m := by rw [ho9]; rw [row_self]; exact cg_units G
              refine aw_aload_n (x := ad 8 0 0) rfl dX1_takeTurn_82 ?_
              refine aw_aload_n (x := ad 1 0 l) rfl dX1_takeTurn_83 ?_
              refine aw_rV (As := [.ref (ad 1 0 l)]) (S := []) (v := some (.int (cs_over (o9.1 0) n m l))) (o2 := o9) (ct_X1_over Go9 (by omega)) (mm_fit_of cbX1_isOverLimit (by decide) (by decide)) wq666 cvX1_isOverLimit wv8 rfl rfl rfl (Nat.le_of_ble_eq_true rfl) (by decide) (by decide) rfl dX1_takeTurn_84 ?_
              refine aw_if_eq (tgt := 95) (by decide) dX1_takeTurn_87 (fun b22 => ?_) (fun b22 => ?_)
              · skip
                exact aw_vret rfl (by decide) (by decide) dX1_takeTurn_95 ⟨rfl, by (subst ho9; first | with_reducible rfl | (simp [cs_turn, cs_inc, row_id, wd_w_row, row_self, row_row, b1, b12, b13, b18, b19, b21, b22]; done) | (simp_all [cs_turn, cs_inc, row_id, wd_w_row, row_self, row_row, b1, b12, b13, b18, b19, b21, b22]; done))⟩
              · skip
                refine aw_aload_n (x := ad 8 0 0) rfl dX1_takeTurn_90 ?_
                refine aw_aload_n (x := ad 1 0 l) rfl dX1_takeTurn_91 ?_
                refine aw_rV (As := [.ref (ad 1 0 l)]) (S := []) (v := none) (o2 := (wd_row o9 0 (cs_end (o9.1 0) n m l))) (ct_X1_endCall Go9 (by omega)) (mm_fit_of cbX1_endCall (by decide) (by decide)) wq613 cvX1_endCall wv8 rfl rfl rfl (Nat.le_of_ble_eq_true rfl) (by decide) (by decide) rfl dX1_takeTurn_92 ?_
                exact aw_vret rfl (by decide) (by decide) dX1_takeTurn_95 ⟨rfl, by (subst ho9; first | with_reducible rfl | (simp [cs_turn, cs_inc, row_id, wd_w_row, row_self, row_row, b1, b12, b13, b18, b19, b21, b22]; done) | (simp_all [cs_turn, cs_inc, row_id, wd_w_row, row_self, row_row, b1, b12, b13, b18, b19, b21, b22]; done))⟩
        · skip
          refine aw_aload_n (x := ad 8 0 0) rfl dX1_takeTurn_40 ?_
          refine aw_getr (q := (0, 0, 0)) wv8 rfl flX1_9 rfl rfl dX1_takeTurn_41 ?_
          refine aw_getr (q := (4, 0, 0)) (wv0 (by decide)) rfl flX1_70 rfl rfl dX1_takeTurn_44 ?_
          refine aw_iconst (v := 2) (by decide) dX1_takeTurn_47 ?_
          refine aw_dup2 rfl rfl dX1_takeTurn_48 ?_
          refine aw_ild (x := 2) (q := (0, 233)) (y := o.1 0 233) (by decide) (wv4 (by decide)) rfl rfl (Nat.le_of_ble_eq_true rfl) rfl dX1_takeTurn_49 ?_
          refine aw_iconst (v := 1) (by decide) dX1_takeTurn_50 ?_
          refine aw_iaddz (z := (o.1 0 233) + 1) rfl dX1_takeTurn_51 ?_
          refine aw_ist (x := 2) (q := (0, 233)) (y := (o.1 0 233) + 1) (by decide) (wv4 (by decide)) rfl (Nat.le_of_ble_eq_true rfl) rfl dX1_takeTurn_52 ?_
          refine aw_aload_n (x := ad 8 0 0) rfl dX1_takeTurn_53 ?_
          refine aw_aload_n (x := ad 1 0 l) rfl dX1_takeTurn_54 ?_
          obtain ⟨o10, ho10⟩ : ∃ z, z = (wd_w o 0 233 ((o.1 0 233) + 1)) := ⟨_, rfl⟩
          rw [← ho10]
          have Go10 : cg (o10.1 0) n m := by rw [ho10]; simp only [wd_w_row, row_self]; exact cg_upd (G) (by omega) (by omega) (fun _ _ => ⟨by omega, by omega⟩)
          refine aw_rV (As := [.ref (ad 1 0 l)]) (S := []) (v := none) (o2 := (wd_row o10 0 (cs_end (o10.1 0) n m l))) (ct_X1_endCall Go10 (by omega)) (mm_fit_of cbX1_endCall (by decide) (by decide)) wq613 cvX1_endCall wv8 rfl rfl rfl (Nat.le_of_ble_eq_true rfl) (by decide) (by decide) rfl dX1_takeTurn_55 ?_
          refine aw_goto (tgt := 95) (by decide) dX1_takeTurn_58 ?_
          exact aw_vret rfl (by decide) (by decide) dX1_takeTurn_95 ⟨rfl, by (subst ho10; first | with_reducible rfl | (simp [cs_turn, cs_inc, row_id, wd_w_row, row_self, row_row, b1, b12, b13, b18]; done) | (simp_all [cs_turn, cs_inc, row_id, wd_w_row, row_self, row_row, b1, b12, b13, b18]; done))⟩
    · skip
      refine aw_aload_n (x := ad 1 0 l) rfl dX1_takeTurn_17 ?_
      refine aw_iconst (v := 5) (by decide) dX1_takeTurn_18 ?_
      refine aw_rV (As := [.int 5]) (S := []) (v := none) (o2 := (wd_row o 0 (cs_comeTo (o.1 0) l 5))) (ct_X3_comeTo (by decide) (by omega)) (mm_fit_of cbX3_comeTo (by decide) (by decide)) wq574 cvX3_comeTo (wv1 (by decide) hl) rfl rfl rfl (Nat.le_of_ble_eq_true rfl) (by decide) (by decide) rfl dX1_takeTurn_19 ?_
      refine aw_goto (tgt := 95) (by decide) dX1_takeTurn_22 ?_
      exact aw_vret rfl (by decide) (by decide) dX1_takeTurn_95 ⟨rfl, by (first | with_reducible rfl | (simp [cs_turn, cs_inc, row_id, wd_w_row, row_self, row_row, b1, b12]; done) | (simp_all [cs_turn, cs_inc, row_id, wd_w_row, row_self, row_row, b1, b12]; done))⟩
def cs_cor (B : Nat → Int32) (m l i : Nat) : Bool := decide (mem B m l i) && (decide (B (101 + 8 * i + 6) ≠ 0) && decide (cs_cuts B l i ≠ 0))
def cs_hasCor (B : Nat → Int32) (m l : Nat) : Int32 := if anyF (cs_cor B m l) 16 0 = true then 1 else 0
theorem lp_X1_cor {ad : Nat → Nat → Nat → Nat} {o : wd_S} {n m l : Nat} (G : cg (o.1 0) n m) (hl : l < 5) : ∀ (k i : Nat) , i + k = 16 → AW ad MX1_hasCutOffReceiver 2 [some (.ref (ad 8 0 0)), some (.ref (ad 1 0 l)), some (.int (nI i)), none] [] o 0 0 (RT (some (.int (if anyF (cs_cor (o.1 0) m l) (k) (i) = true then 1 else 0))) o) := by
  obtain ⟨g1, g2, g3, g4, g5, g6⟩ := id G
  intro k
  induction k with
  | zero =>
    intro i hk
    have hi : i = 16 := by omega
    subst hi
    refine aw_iload_n (x := (nI 16)) rfl dX1_hasCutOffReceiver_2 ?_
    refine aw_bipush (v := 16) (by decide) dX1_hasCutOffReceiver_3 ?_
    refine aw_icmp_ge (tgt := 45) (by decide) dX1_hasCutOffReceiver_5 (fun _ => ?_) (fun z => absurd (by decide) z)
    refine aw_iconst (v := 0) (by decide) dX1_hasCutOffReceiver_45 ?_
    exact aw_zret rfl (by decide) (by decide) (by decide) dX1_hasCutOffReceiver_46 ⟨by first | rfl | (simp [anyF, cs_cor, mem]; done) | (simp_all [anyF, cs_cor, mem]; done), by first | rfl | (simp [anyF, cs_cor, mem]; done) | (simp_all [anyF, cs_cor, mem]; done)⟩
  | succ k ih =>
    intro i hk
    have hi : i < 16 := by omega
    refine aw_iload_n (x := (nI i)) rfl dX1_hasCutOffReceiver_2 ?_
    refine aw_bipush (v := 16) (by decide) dX1_hasCutOffReceiver_3 ?_
    refine aw_icmp_ge (tgt := 45) (by decide) dX1_hasCutOffReceiver_5 (fun z => absurd z (nI_ge (b := 16) hi (by decide))) (fun _ => ?_)
    refine aw_aload_n (x := ad 8 0 0) rfl dX1_hasCutOffReceiver_8 ?_
    refine aw_getr (q := (0, 0, 0)) wv8 rfl flX1_9 rfl rfl dX1_hasCutOffReceiver_9 ?_
    refine aw_aload_n (x := ad 1 0 l) rfl dX1_hasCutOffReceiver_12 ?_
    refine aw_iload_n (x := (nI i)) rfl dX1_hasCutOffReceiver_13 ?_
    by_cases q1 : mem (o.1 0) m l i
    · skip
      refine aw_rV (v := some (.ref (ad 3 0 i))) (o2 := o) (ct_X5_memberAt_some G hl q1) (mm_fit_of cbX5_memberAt (by decide) (by decide)) wq612 cvX5_memberAt (wv0 (by decide)) rfl rfl rfl (Nat.le_of_ble_eq_true rfl) (by decide) (by decide) rfl dX1_hasCutOffReceiver_14 ?_
      refine aw_astore_n (L2 := [some (.ref (ad 8 0 0)), some (.ref (ad 1 0 l)), some (.int (nI i)), some (.ref (ad 3 0 i))]) (by decide) rfl rfl dX1_hasCutOffReceiver_17 ?_
      refine aw_aload_n (x := ad 3 0 i) rfl dX1_hasCutOffReceiver_18 ?_
      refine aw_ifnull dX1_hasCutOffReceiver_19 ?_
      refine aw_aload_n (x := ad 3 0 i) rfl dX1_hasCutOffReceiver_22 ?_
      refine aw_geti (q := (0, 101 + 8 * i + 6)) (x := o.1 0 (101 + 8 * i + 6)) (wv3 (by decide) (by omega)) rfl rfl flX1_15 rfl (Or.inr rfl) dX1_hasCutOffReceiver_23 ?_
      refine aw_if_eq (tgt := 39) (by decide) dX1_hasCutOffReceiver_26 (fun b2 => ?_) (fun b2 => ?_)
      · skip
        refine aw_iinc (n := 1) (x := (nI i)) (v := nI (i + 1)) (L2 := [some (.ref (ad 8 0 0)), some (.ref (ad 1 0 l)), some (.int (nI (i + 1))), some (.ref (ad 3 0 i))]) rfl (nI_1 i) (by decide) rfl rfl dX1_hasCutOffReceiver_39 ?_
        refine aw_goto (tgt := 2) (by decide) dX1_hasCutOffReceiver_42 ?_
        have e9 : (RT (some (.int (if anyF (cs_cor (o.1 0) m l) (k + 1) (i) = true then 1 else 0))) o) = (RT (some (.int (if anyF (cs_cor (o.1 0) m l) (k) (i + 1) = true then 1 else 0))) o) := by first | (simp [anyF, cs_cor, mem, q1, b2]; done) | (simp_all [anyF, cs_cor, mem, q1, b2]; done)
        rw [e9]
        exact AW.locs (ih (i + 1)  (by omega) ) (lsub_keep (lsub_keep (lsub_keep (lsub_none lsub_nil))))
      · skip
        refine aw_aload_n (x := ad 1 0 l) rfl dX1_hasCutOffReceiver_29 ?_
        refine aw_aload_n (x := ad 3 0 i) rfl dX1_hasCutOffReceiver_30 ?_
        refine aw_rV (v := some (.int (cs_cuts (o.1 0) l i))) (o2 := o) (ct_X3_cutsOff (by decide) hl (by omega)) (mm_fit_of cbX3_cutsOff (by decide) (by decide)) wq565 cvX3_cutsOff (wv1 (by decide) hl) rfl rfl rfl (Nat.le_of_ble_eq_true rfl) (by decide) (by decide) rfl dX1_hasCutOffReceiver_31 ?_
        refine aw_if_eq (tgt := 39) (by decide) dX1_hasCutOffReceiver_34 (fun b3 => ?_) (fun b3 => ?_)
        · skip
          refine aw_iinc (n := 1) (x := (nI i)) (v := nI (i + 1)) (L2 := [some (.ref (ad 8 0 0)), some (.ref (ad 1 0 l)), some (.int (nI (i + 1))), some (.ref (ad 3 0 i))]) rfl (nI_1 i) (by decide) rfl rfl dX1_hasCutOffReceiver_39 ?_
          refine aw_goto (tgt := 2) (by decide) dX1_hasCutOffReceiver_42 ?_
          have e9 : (RT (some (.int (if anyF (cs_cor (o.1 0) m l) (k + 1) (i) = true then 1 else 0))) o) = (RT (some (.int (if anyF (cs_cor (o.1 0) m l) (k) (i + 1) = true then 1 else 0))) o) := by first | (simp [anyF, cs_cor, mem, q1, b2, b3]; done) | (simp_all [anyF, cs_cor, mem, q1, b2, b3]; done)
          rw [e9]
          exact AW.locs (ih (i + 1)  (by omega) ) (lsub_keep (lsub_keep (lsub_keep (lsub_none lsub_nil))))
        · skip
          refine aw_iconst (v := 1) (by decide) dX1_hasCutOffReceiver_37 ?_
          exact aw_zret rfl (by decide) (by decide) (by decide) dX1_hasCutOffReceiver_38 ⟨by first | rfl | (simp [anyF, cs_cor, mem, q1, b2, b3]; done) | (simp_all [anyF, cs_cor, mem, q1, b2, b3]; done), by first | rfl | (simp [anyF, cs_cor, mem, q1, b2, b3]; done) | (simp_all [anyF, cs_cor, mem, q1, b2, b3]; done)⟩
    · skip
      refine aw_rV (v := some .null) (o2 := o) (ct_X5_memberAt_none G hl (by omega) q1) (mm_fit_of cbX5_memberAt (by decide) (by decide)) wq612 cvX5_memberAt (wv0 (by decide)) rfl rfl rfl (Nat.le_of_ble_eq_true rfl) (by decide) (by decide) rfl dX1_hasCutOffReceiver_14 ?_
      refine aw_astore_nN (L2 := [some (.ref (ad 8 0 0)), some (.ref (ad 1 0 l)), some (.int (nI i)), some (.null)]) (by decide) rfl rfl dX1_hasCutOffReceiver_17 ?_
      refine aw_aload_nN rfl dX1_hasCutOffReceiver_18 ?_
      refine aw_ifnullN (tgt := 39) (by decide) dX1_hasCutOffReceiver_19 ?_
      refine aw_iinc (n := 1) (x := (nI i)) (v := nI (i + 1)) (L2 := [some (.ref (ad 8 0 0)), some (.ref (ad 1 0 l)), some (.int (nI (i + 1))), some (.null)]) rfl (nI_1 i) (by decide) rfl rfl dX1_hasCutOffReceiver_39 ?_
      refine aw_goto (tgt := 2) (by decide) dX1_hasCutOffReceiver_42 ?_
      have e9 : (RT (some (.int (if anyF (cs_cor (o.1 0) m l) (k + 1) (i) = true then 1 else 0))) o) = (RT (some (.int (if anyF (cs_cor (o.1 0) m l) (k) (i + 1) = true then 1 else 0))) o) := by first | (simp [anyF, cs_cor, mem, q1]; done) | (simp_all [anyF, cs_cor, mem, q1]; done)
      rw [e9]
      exact AW.locs (ih (i + 1)  (by omega) ) (lsub_keep (lsub_keep (lsub_keep (lsub_none lsub_nil))))
theorem ct_X1_cor {ad : Nat → Nat → Nat → Nat} {o : wd_S} {n m l : Nat} (G : cg (o.1 0) n m) (hl : l < 5) : CT ad MX1_hasCutOffReceiver [.ref (ad 8 0 0), .ref (ad 1 0 l)] o (RT (some (.int (cs_hasCor (o.1 0) m l))) o) := by
  refine CT.of (L := [some (.ref (ad 8 0 0)), some (.ref (ad 1 0 l)), none, none]) rfl rfl (by decide) (Nat.le_of_ble_eq_true rfl) rfl ?_
  refine aw_iconst (v := 0) (by decide) dX1_hasCutOffReceiver_0 ?_
  refine aw_istore_n (L2 := [some (.ref (ad 8 0 0)), some (.ref (ad 1 0 l)), some (.int 0), none]) (by decide) rfl rfl dX1_hasCutOffReceiver_1 ?_
  exact AW.post (AW.locs (lp_X1_cor G hl 16 0 (by decide)) (lsub_keep (lsub_keep (lsub_keep (lsub_keep lsub_nil))))) (fun r o2 q => by simpa [cs_hasCor] using q)
def cs_break (B : Nat → Int32) (n m l : Nat) (k x : Int32) : Nat → Int32 := cs_end (upd (upd B (20 * l + 7) k) (20 * l + 8) x) n m l
def cs_mend (B : Nat → Int32) (n m l : Nat) : Nat → Int32 :=
  let B1 := cs_clear B l
  if cs_hasCor B m l = 0 then B1 else if B1 (20 * l + 1) = 0 then cs_end B1 n m l else if cs_rung B1 l = 0 then B1 else cs_end B1 n m l
theorem cg_clear {B : Nat → Int32} {n m l : Nat} (G : cg B n m) (hl : l < 5) : cg (cs_clear B l) n m := cg_upd (cg_upd G (by omega) (by omega) (fun _ _ => ⟨by omega, by omega⟩)) (by omega) (by omega) (fun _ _ => ⟨by omega, by omega⟩)
theorem ct_X1_break {ad : Nat → Nat → Nat → Nat} {o : wd_S} {n m l : Nat} (G : cg (o.1 0) n m) (hl : l < 5) {k x : Int32} (hx : x = 0 ∨ x = 1) : CT ad MX1_breakSpan [.ref (ad 8 0 0), .ref (ad 1 0 l), .int k, .int x] o (RT none (wd_row o 0 (cs_break (o.1 0) n m l k x))) := by
  obtain ⟨g1, g2, g3, g4, g5, g6⟩ := id G
  refine CT.of (L := [some (.ref (ad 8 0 0)), some (.ref (ad 1 0 l)), some (.int k), some (.int x)]) rfl rfl (by decide) (Nat.le_of_ble_eq_true rfl) rfl ?_
  refine aw_aload_n (x := ad 1 0 l) rfl dX1_breakSpan_0 ?_
  refine aw_iload_n (x := k) rfl dX1_breakSpan_1 ?_
  refine aw_puti (q := (0, 20 * l + 7)) (wv1 (by decide) hl) rfl fwX1_156 rfl rfl dX1_breakSpan_2 ?_
  refine aw_aload_n (x := ad 1 0 l) rfl dX1_breakSpan_5 ?_
  refine aw_iload_n (x := x) rfl dX1_breakSpan_6 ?_
  refine aw_putz (q := (0, 20 * l + 8)) hx (wv1 (by decide) hl) rfl fwX1_159 rfl rfl dX1_breakSpan_7 ?_
  refine aw_aload_n (x := ad 8 0 0) rfl dX1_breakSpan_10 ?_
  refine aw_aload_n (x := ad 1 0 l) rfl dX1_breakSpan_11 ?_
  obtain ⟨o1, ho1⟩ : ∃ z, z = (wd_w (wd_w o 0 (20 * l + 7) k) 0 (20 * l + 8) x) := ⟨_, rfl⟩
  rw [← ho1]
  have Go1 : cg (o1.1 0) n m := by rw [ho1]; simp only [wd_w_row, row_self]; exact cg_upd (cg_upd (G) (by omega) (by omega) (fun _ _ => ⟨by omega, by omega⟩)) (by omega) (by omega) (fun _ _ => ⟨by omega, by omega⟩)
  refine aw_rV (As := [.ref (ad 1 0 l)]) (S := []) (v := none) (o2 := (wd_row o1 0 (cs_end (o1.1 0) n m l))) (ct_X1_endCall Go1 (by omega)) (mm_fit_of cbX1_endCall (by decide) (by decide)) wq613 cvX1_endCall wv8 rfl rfl rfl (Nat.le_of_ble_eq_true rfl) (by decide) (by decide) rfl dX1_breakSpan_12 ?_
  exact aw_vret rfl (by decide) (by decide) dX1_breakSpan_15 ⟨rfl, by (subst ho1; first | with_reducible rfl | (simp [cs_break, wd_w_row, row_self, row_row]; done) | (simp_all [cs_break, wd_w_row, row_self, row_row]; done))⟩
theorem ct_X1_mend {ad : Nat → Nat → Nat → Nat} {o : wd_S} {n m l : Nat} (G : cg (o.1 0) n m) (hl : l < 5) : CT ad MX1_mendSpan [.ref (ad 8 0 0), .ref (ad 1 0 l)] o (RT none (wd_row o 0 (cs_mend (o.1 0) n m l))) := by
  obtain ⟨g1, g2, g3, g4, g5, g6⟩ := id G
  refine CT.of (L := [some (.ref (ad 8 0 0)), some (.ref (ad 1 0 l)), none]) rfl rfl (by decide) (Nat.le_of_ble_eq_true rfl) rfl ?_
  refine aw_aload_n (x := ad 8 0 0) rfl dX1_mendSpan_0 ?_
  refine aw_aload_n (x := ad 1 0 l) rfl dX1_mendSpan_1 ?_
  refine aw_rV (As := [.ref (ad 1 0 l)]) (S := []) (v := some (.int (cs_hasCor (o.1 0) m l))) (o2 := o) (ct_X1_cor G (by omega)) (mm_fit_of cbX1_hasCutOffReceiver (by decide) (by decide)) wq799 cvX1_hasCutOffReceiver wv8 rfl rfl rfl (Nat.le_of_ble_eq_true rfl) (by decide) (by decide) rfl dX1_mendSpan_2 ?_
  refine aw_istore_n (L2 := [some (.ref (ad 8 0 0)), some (.ref (ad 1 0 l)), some (.int (cs_hasCor (o.1 0) m l))]) (by decide) rfl rfl dX1_mendSpan_5 ?_
  refine aw_aload_n (x := ad 1 0 l) rfl dX1_mendSpan_6 ?_
  refine aw_rV (As := []) (S := []) (v := none) (o2 := (wd_row o 0 (cs_clear (o.1 0) l))) (ct_X3_clearFault (by decide) (by omega)) (mm_fit_of cbX3_clearFault (by decide) (by decide)) wq803 cvX3_clearFault (wv1 (by decide) hl) rfl rfl rfl (Nat.le_of_ble_eq_true rfl) (by decide) (by decide) rfl dX1_mendSpan_7 ?_
  obtain ⟨o1, ho1⟩ : ∃ z, z = (wd_row o 0 (cs_clear (o.1 0) l)) := ⟨_, rfl⟩
  rw [← ho1]
  have Go1 : cg (o1.1 0) n m := by rw [ho1]; rw [row_self]; exact cg_clear G (by omega)
  refine aw_iload_n (x := (cs_hasCor (o.1 0) m l)) rfl dX1_mendSpan_10 ?_
  refine aw_if_eq (tgt := 33) (by decide) dX1_mendSpan_11 (fun b1 => ?_) (fun b1 => ?_)
  · skip
    exact aw_vret rfl (by decide) (by decide) dX1_mendSpan_33 ⟨rfl, by (subst ho1; first | with_reducible rfl | (simp [cs_mend, wd_w_row, row_self, row_row, b1]; done) | (simp_all [cs_mend, wd_w_row, row_self, row_row, b1]; done))⟩
  · skip
    refine aw_aload_n (x := ad 1 0 l) rfl dX1_mendSpan_14 ?_
    refine aw_geti (q := (0, 20 * l + 1)) (x := o1.1 0 (20 * l + 1)) (wv1 (by decide) hl) rfl rfl flX1_37 rfl (Or.inl rfl) dX1_mendSpan_15 ?_
    refine aw_if_eq (tgt := 28) (by decide) dX1_mendSpan_18 (fun b2 => ?_) (fun b2 => ?_)
    · skip
      refine aw_aload_n (x := ad 8 0 0) rfl dX1_mendSpan_28 ?_
      refine aw_aload_n (x := ad 1 0 l) rfl dX1_mendSpan_29 ?_
      refine aw_rV (As := [.ref (ad 1 0 l)]) (S := []) (v := none) (o2 := (wd_row o1 0 (cs_end (o1.1 0) n m l))) (ct_X1_endCall Go1 (by omega)) (mm_fit_of cbX1_endCall (by decide) (by decide)) wq613 cvX1_endCall wv8 rfl rfl rfl (Nat.le_of_ble_eq_true rfl) (by decide) (by decide) rfl dX1_mendSpan_30 ?_
      exact aw_vret rfl (by decide) (by decide) dX1_mendSpan_33 ⟨rfl, by (subst ho1; first | with_reducible rfl | (simp [cs_mend, wd_w_row, row_self, row_row, b1, b2]; done) | (simp_all [cs_mend, wd_w_row, row_self, row_row, b1, b2]; done))⟩
    · skip
      refine aw_aload_n (x := ad 1 0 l) rfl dX1_mendSpan_21 ?_
      refine aw_rV (As := []) (S := []) (v := some (.int (cs_rung (o1.1 0) l))) (o2 := o1) (ct_X3_isRung (by decide) (by omega)) (mm_fit_of cbX3_isRung (by decide) (by decide)) wq287 cvX3_isRung (wv1 (by decide) hl) rfl rfl rfl (Nat.le_of_ble_eq_true rfl) (by decide) (by decide) rfl dX1_mendSpan_22 ?_
      refine aw_if_eq (tgt := 33) (by decide) dX1_mendSpan_25 (fun b3 => ?_) (fun b3 => ?_)
      · skip
        exact aw_vret rfl (by decide) (by decide) dX1_mendSpan_33 ⟨rfl, by (subst ho1; first | with_reducible rfl | (simp [cs_mend, wd_w_row, row_self, row_row, b1, b2, b3]; done) | (simp_all [cs_mend, wd_w_row, row_self, row_row, b1, b2, b3]; done))⟩
      · skip
        refine aw_aload_n (x := ad 8 0 0) rfl dX1_mendSpan_28 ?_
        refine aw_aload_n (x := ad 1 0 l) rfl dX1_mendSpan_29 ?_
        refine aw_rV (As := [.ref (ad 1 0 l)]) (S := []) (v := none) (o2 := (wd_row o1 0 (cs_end (o1.1 0) n m l))) (ct_X1_endCall Go1 (by omega)) (mm_fit_of cbX1_endCall (by decide) (by decide)) wq613 cvX1_endCall wv8 rfl rfl rfl (Nat.le_of_ble_eq_true rfl) (by decide) (by decide) rfl dX1_mendSpan_30 ?_
        exact aw_vret rfl (by decide) (by decide) dX1_mendSpan_33 ⟨rfl, by (subst ho1; first | with_reducible rfl | (simp [cs_mend, wd_w_row, row_self, row_row, b1, b2, b3]; done) | (simp_all [cs_mend, wd_w_row, row_self, row_row, b1, b2, b3]; done))⟩
