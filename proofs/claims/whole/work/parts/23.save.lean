/-! History: the saved states by their places -/
theorem CT.pi {ad : Nat → Nat → Nat → Nat} {M : mm_M} {av : List Value} {o : wd_S} {F : (Option Value ⊕ String) → wd_S → Prop} (h : (∀ q, q < 4 → 1 ≤ o.2.1 q ∧ o.2.1 q < 5) → CT ad M av o F) : CT ad M av o F := fun h0 W => h W.2.2.2.2.2.2.2 h0 W
def rot (pi : Nat → Nat) : Nat → Nat := fun x => if x = 3 then pi 0 else if x = 2 then pi 3 else if x = 1 then pi 2 else if x = 0 then pi 1 else pi x
theorem wd_w_pi (o : wd_S) (pi : Nat → Nat) (r x : Nat) (v : Int32) : wd_w (wd_pi o pi) r x v = wd_pi (wd_w o r x v) pi := rfl
theorem wd_row_pi (o : wd_S) (pi : Nat → Nat) (r : Nat) (B : Nat → Int32) : wd_row (wd_pi o pi) r B = wd_pi (wd_row o r B) pi := rfl
theorem wd_pi_pi (o : wd_S) (pi pj : Nat → Nat) : wd_pi (wd_pi o pi) pj = wd_pi o pj := rfl
theorem wd_pi_1 (o : wd_S) (pi : Nat → Nat) : (wd_pi o pi).1 = o.1 := rfl
theorem wd_pi_2 (o : wd_S) (pi : Nat → Nat) : (wd_pi o pi).2.1 = pi := rfl
theorem ct_X2_drop {ad : Nat → Nat → Nat → Nat} {o : wd_S} (hp : ∀ q, q < 4 → 1 ≤ o.2.1 q ∧ o.2.1 q < 5) : CT ad MX2_dropOldest [.ref (ad 9 0 0)] o (RT none (wd_w (wd_pi o (rot o.2.1)) 5 0 3)) := by
  refine CT.of (L := [some (.ref (ad 9 0 0)), none, none]) rfl rfl (by decide) (Nat.le_of_ble_eq_true rfl) rfl ?_
  refine aw_aload_n (x := ad 9 0 0) rfl dX2_dropOldest_0 ?_
  refine aw_getr (q := (10, 0, 0)) wv9 rfl flX2_11 rfl rfl dX2_dropOldest_1 ?_
  refine aw_iconst (v := 0) (by decide) dX2_dropOldest_4 ?_
  refine aw_ald (x := 0) (ty := 4) (q := (0, (o.2.1 0), 0)) (by decide) wv10 (by simp [wd_r, wd_pi]) (Nat.le_of_ble_eq_true rfl) rfl (by decide) (by decide) dX2_dropOldest_5 ?_
  refine aw_astore_n (L2 := [some (.ref (ad 9 0 0)), some (.ref (ad 0 (o.2.1 0) 0)), none]) (by decide) rfl rfl dX2_dropOldest_6 ?_
  refine aw_iconst (v := 1) (by decide) dX2_dropOldest_7 ?_
  refine aw_istore_n (L2 := [some (.ref (ad 9 0 0)), some (.ref (ad 0 (o.2.1 0) 0)), some (.int 1)]) (by decide) rfl rfl dX2_dropOldest_8 ?_
  refine aw_iload_n (x := 1) rfl dX2_dropOldest_9 ?_
  refine aw_iconst (v := 4) (by decide) dX2_dropOldest_10 ?_
  refine aw_icmp_ge (tgt := 34) (by decide) dX2_dropOldest_11 (fun z => absurd z (by decide)) (fun _ => ?_)
  refine aw_aload_n (x := ad 9 0 0) rfl dX2_dropOldest_14 ?_
  refine aw_getr (q := (10, 0, 0)) wv9 rfl flX2_11 rfl rfl dX2_dropOldest_15 ?_
  refine aw_iload_n (x := 1) rfl dX2_dropOldest_18 ?_
  refine aw_iconst (v := 1) (by decide) dX2_dropOldest_19 ?_
  refine aw_isubz (z := 0) (by decide) dX2_dropOldest_20 ?_
  refine aw_aload_n (x := ad 9 0 0) rfl dX2_dropOldest_21 ?_
  refine aw_getr (q := (10, 0, 0)) wv9 rfl flX2_11 rfl rfl dX2_dropOldest_22 ?_
  refine aw_iload_n (x := 1) rfl dX2_dropOldest_25 ?_
  refine aw_ald (x := 1) (ty := 4) (q := (0, (o.2.1 1), 0)) (by decide) wv10 (by simp [wd_r, wd_pi]) (Nat.le_of_ble_eq_true rfl) rfl (by decide) (by decide) dX2_dropOldest_26 ?_
  refine aw_ast (x := 0) (j := (o.2.1 1)) (by decide) (by decide) (hp 1 (by decide)) dX2_dropOldest_27 ?_
  refine aw_iinc (n := 1) (x := 1) (v := 2) (L2 := [some (.ref (ad 9 0 0)), some (.ref (ad 0 (o.2.1 0) 0)), some (.int 2)]) rfl (by decide) (by decide) rfl rfl dX2_dropOldest_28 ?_
  refine aw_goto (tgt := 9) (by decide) dX2_dropOldest_31 ?_
  refine aw_iload_n (x := 2) rfl dX2_dropOldest_9 ?_
  refine aw_iconst (v := 4) (by decide) dX2_dropOldest_10 ?_
  refine aw_icmp_ge (tgt := 34) (by decide) dX2_dropOldest_11 (fun z => absurd z (by decide)) (fun _ => ?_)
  refine aw_aload_n (x := ad 9 0 0) rfl dX2_dropOldest_14 ?_
  refine aw_getr (q := (10, 0, 0)) wv9 rfl flX2_11 rfl rfl dX2_dropOldest_15 ?_
  refine aw_iload_n (x := 2) rfl dX2_dropOldest_18 ?_
  refine aw_iconst (v := 1) (by decide) dX2_dropOldest_19 ?_
  refine aw_isubz (z := 1) (by decide) dX2_dropOldest_20 ?_
  refine aw_aload_n (x := ad 9 0 0) rfl dX2_dropOldest_21 ?_
  refine aw_getr (q := (10, 0, 0)) wv9 rfl flX2_11 rfl rfl dX2_dropOldest_22 ?_
  refine aw_iload_n (x := 2) rfl dX2_dropOldest_25 ?_
  refine aw_ald (x := 2) (ty := 4) (q := (0, (o.2.1 2), 0)) (by decide) wv10 (by simp [wd_r, wd_pi]) (Nat.le_of_ble_eq_true rfl) rfl (by decide) (by decide) dX2_dropOldest_26 ?_
  refine aw_ast (x := 1) (j := (o.2.1 2)) (by decide) (by decide) (hp 2 (by decide)) dX2_dropOldest_27 ?_
  refine aw_iinc (n := 1) (x := 2) (v := 3) (L2 := [some (.ref (ad 9 0 0)), some (.ref (ad 0 (o.2.1 0) 0)), some (.int 3)]) rfl (by decide) (by decide) rfl rfl dX2_dropOldest_28 ?_
  refine aw_goto (tgt := 9) (by decide) dX2_dropOldest_31 ?_
  refine aw_iload_n (x := 3) rfl dX2_dropOldest_9 ?_
  refine aw_iconst (v := 4) (by decide) dX2_dropOldest_10 ?_
  refine aw_icmp_ge (tgt := 34) (by decide) dX2_dropOldest_11 (fun z => absurd z (by decide)) (fun _ => ?_)
  refine aw_aload_n (x := ad 9 0 0) rfl dX2_dropOldest_14 ?_
  refine aw_getr (q := (10, 0, 0)) wv9 rfl flX2_11 rfl rfl dX2_dropOldest_15 ?_
  refine aw_iload_n (x := 3) rfl dX2_dropOldest_18 ?_
  refine aw_iconst (v := 1) (by decide) dX2_dropOldest_19 ?_
  refine aw_isubz (z := 2) (by decide) dX2_dropOldest_20 ?_
  refine aw_aload_n (x := ad 9 0 0) rfl dX2_dropOldest_21 ?_
  refine aw_getr (q := (10, 0, 0)) wv9 rfl flX2_11 rfl rfl dX2_dropOldest_22 ?_
  refine aw_iload_n (x := 3) rfl dX2_dropOldest_25 ?_
  refine aw_ald (x := 3) (ty := 4) (q := (0, (o.2.1 3), 0)) (by decide) wv10 (by simp [wd_r, wd_pi]) (Nat.le_of_ble_eq_true rfl) rfl (by decide) (by decide) dX2_dropOldest_26 ?_
  refine aw_ast (x := 2) (j := (o.2.1 3)) (by decide) (by decide) (hp 3 (by decide)) dX2_dropOldest_27 ?_
  refine aw_iinc (n := 1) (x := 3) (v := 4) (L2 := [some (.ref (ad 9 0 0)), some (.ref (ad 0 (o.2.1 0) 0)), some (.int 4)]) rfl (by decide) (by decide) rfl rfl dX2_dropOldest_28 ?_
  refine aw_goto (tgt := 9) (by decide) dX2_dropOldest_31 ?_
  refine aw_iload_n (x := 4) rfl dX2_dropOldest_9 ?_
  refine aw_iconst (v := 4) (by decide) dX2_dropOldest_10 ?_
  refine aw_icmp_ge (tgt := 34) (by decide) dX2_dropOldest_11 (fun _ => ?_) (fun z => absurd z (by decide))
  refine aw_aload_n (x := ad 9 0 0) rfl dX2_dropOldest_34 ?_
  refine aw_getr (q := (10, 0, 0)) wv9 rfl flX2_11 rfl rfl dX2_dropOldest_35 ?_
  refine aw_iconst (v := 3) (by decide) dX2_dropOldest_38 ?_
  refine aw_aload_n (x := ad 0 (o.2.1 0) 0) rfl dX2_dropOldest_39 ?_
  refine aw_ast (x := 3) (j := (o.2.1 0)) (by decide) (by decide) (hp 0 (by decide)) dX2_dropOldest_40 ?_
  refine aw_aload_n (x := ad 9 0 0) rfl dX2_dropOldest_41 ?_
  refine aw_iconst (v := 3) (by decide) dX2_dropOldest_42 ?_
  refine aw_puti (q := (5, 0)) wv9 rfl fwX2_17 rfl rfl dX2_dropOldest_43 ?_
  exact aw_vret rfl (by decide) (by decide) dX2_dropOldest_46 ⟨rfl, by first | (simp only [wd_pi_pi, wd_pi_2, wd_w_pi]; done) | (simp only [wd_pi_pi, wd_pi_2, wd_w_pi]; congr 1; done) | (simp only [wd_pi_pi, wd_pi_2, wd_w_pi]; congr 1; funext x; unfold rot; by_cases h3 : x = 3 <;> by_cases h2 : x = 2 <;> by_cases h1 : x = 1 <;> by_cases h0 : x = 0 <;> simp_all)⟩
theorem ct_X2_savedAt {ad : Nat → Nat → Nat → Nat} {o : wd_S} {c : Nat} (hp : ∀ q, q < 4 → 1 ≤ o.2.1 q ∧ o.2.1 q < 5) (hc : c < 4) : CT ad MX2_savedAt [.ref (ad 9 0 0), .int (nI c)] o (RT (some (.ref (ad 0 (o.2.1 c) 0))) o) := by
  refine CT.of (L := [some (.ref (ad 9 0 0)), some (.int (nI c))]) rfl rfl (by decide) (Nat.le_of_ble_eq_true rfl) rfl ?_
  refine aw_iload_n (x := (nI c)) rfl dX2_savedAt_0 ?_
  refine aw_if_lt (tgt := 18) (by decide) dX2_savedAt_1 (fun z => absurd z (nI_pos (by omega))) (fun _ => ?_)
  refine aw_iload_n (x := (nI c)) rfl dX2_savedAt_4 ?_
  refine aw_iconst (v := 4) (by decide) dX2_savedAt_5 ?_
  refine aw_icmp_ge (tgt := 18) (by decide) dX2_savedAt_6 (fun z => absurd z (nI_ge (b := 4) hc (by decide))) (fun _ => ?_)
  refine aw_aload_n (x := ad 9 0 0) rfl dX2_savedAt_9 ?_
  refine aw_getr (q := (10, 0, 0)) wv9 rfl flX2_11 rfl rfl dX2_savedAt_10 ?_
  refine aw_iload_n (x := (nI c)) rfl dX2_savedAt_13 ?_
  refine aw_ald (x := c) (ty := 4) (q := (0, (o.2.1 c), 0)) rfl wv10 (wr10 (by omega)) (by show _ < 4; omega) rfl (by decide) (by decide) dX2_savedAt_14 ?_
  refine aw_goto (tgt := 19) (by decide) dX2_savedAt_15 ?_
  exact aw_aret rfl (Or.inr ⟨_, rfl⟩) (by decide) (by decide) dX2_savedAt_19 ⟨by first | rfl | (simp [wd_w_row, row_self, row_row]; done) | (simp_all [wd_w_row, row_self, row_row]; done), by first | rfl | (simp [wd_w_row, row_self, row_row]; done) | (simp_all [wd_w_row, row_self, row_row]; done)⟩
def cs_save (o : wd_S) (c : Nat) : wd_S := wd_w (wd_row o (o.2.1 c) (cpr (o.1 (o.2.1 c)) (o.1 0))) 5 0 (nI (c + 1))
theorem ct_X2_save_lt {ad : Nat → Nat → Nat → Nat} {o : wd_S} {c n m : Nat} (hp : ∀ q, q < 4 → 1 ≤ o.2.1 q ∧ o.2.1 q < 5) (G : cg (o.1 0) n m) (hk : o.1 5 0 = nI c) (hc : c < 4) (Z : bz (o.1 0)) : CT ad MX2_save [.ref (ad 9 0 0), .ref (ad 0 0 0)] o (RT none (cs_save o c)) := by
  refine CT.of (L := [some (.ref (ad 9 0 0)), some (.ref (ad 0 0 0)), none]) rfl rfl (by decide) (Nat.le_of_ble_eq_true rfl) rfl ?_
  refine aw_aload_n (x := ad 9 0 0) rfl dX2_save_0 ?_
  refine aw_geti (q := (5, 0)) (x := nI c) wv9 rfl hk flX2_17 rfl (Or.inl rfl) dX2_save_1 ?_
  refine aw_iconst (v := 4) (by decide) dX2_save_4 ?_
  refine aw_icmp_lt (tgt := 12) (by decide) dX2_save_5 (fun _ => ?_) (fun z => absurd (nI_lt (b := 4) hc (by decide)) z)
  refine aw_aload_n (x := ad 9 0 0) rfl dX2_save_12 ?_
  refine aw_aload_n (x := ad 9 0 0) rfl dX2_save_13 ?_
  refine aw_geti (q := (5, 0)) (x := nI c) wv9 rfl hk flX2_17 rfl (Or.inl rfl) dX2_save_14 ?_
  refine aw_rV (As := [.int (nI c)]) (S := []) (v := some (.ref (ad 0 (o.2.1 c) 0))) (o2 := o) (ct_X2_savedAt (c := c) hp hc) (mm_fit_of cbX2_savedAt (by decide) (by decide)) wq431 cvX2_savedAt wv9 rfl rfl rfl (Nat.le_of_ble_eq_true rfl) (by decide) (by decide) rfl dX2_save_17 ?_
  refine aw_astore_n (L2 := [some (.ref (ad 9 0 0)), some (.ref (ad 0 0 0)), some (.ref (ad 0 (o.2.1 c) 0))]) (by decide) rfl rfl dX2_save_20 ?_
  refine aw_aload_n (x := ad 0 (o.2.1 c) 0) rfl dX2_save_21 ?_
  refine aw_ifnull dX2_save_22 ?_
  refine aw_aload_n (x := ad 0 (o.2.1 c) 0) rfl dX2_save_25 ?_
  refine aw_aload_n (x := ad 0 0 0) rfl dX2_save_26 ?_
  refine aw_rV (As := [.ref (ad 0 0 0)]) (S := []) (v := none) (o2 := (wd_row o (o.2.1 c) (cpr (o.1 (o.2.1 c)) (o.1 0)))) (ct_X5_copyFrom (hp c hc).2 (by decide) (by have := hp c hc; omega) G.2.1 G.2.2.2.1 G.1 G.2.2.1 Z) (mm_fit_of cbX5_copyFrom (by decide) (by decide)) wq435 cvX5_copyFrom (wv0 (hp c hc).2) rfl rfl rfl (Nat.le_of_ble_eq_true rfl) (by decide) (by decide) rfl dX2_save_27 ?_
  refine aw_aload_n (x := ad 9 0 0) rfl dX2_save_30 ?_
  refine aw_dup rfl dX2_save_31 ?_
  refine aw_geti (q := (5, 0)) (x := nI c) wv9 rfl (by rw [row_ne _ _ (by have := hp c hc; omega)]; exact hk) flX2_17 rfl (Or.inl rfl) dX2_save_32 ?_
  refine aw_iconst (v := 1) (by decide) dX2_save_35 ?_
  refine aw_iaddz (z := nI (c + 1)) (nI_1 c) dX2_save_36 ?_
  refine aw_puti (q := (5, 0)) wv9 rfl fwX2_17 rfl rfl dX2_save_37 ?_
  exact aw_vret rfl (by decide) (by decide) dX2_save_40 ⟨rfl, by first | rfl | (simp [cs_save, wd_w_row, row_self, row_row]; done) | (simp_all [cs_save, wd_w_row, row_self, row_row]; done)⟩
def cs_drop (o : wd_S) : wd_S := wd_w (wd_pi o (rot o.2.1)) 5 0 3
theorem drop_pi {o : wd_S} (hp : ∀ q, q < 4 → 1 ≤ o.2.1 q ∧ o.2.1 q < 5) : ∀ q, q < 4 → 1 ≤ (cs_drop o).2.1 q ∧ (cs_drop o).2.1 q < 5 := by
  intro q hq
  show 1 ≤ rot o.2.1 q ∧ rot o.2.1 q < 5
  rcases (show q = 0 ∨ q = 1 ∨ q = 2 ∨ q = 3 by omega) with rfl | rfl | rfl | rfl
  · exact hp 1 (by decide)
  · exact hp 2 (by decide)
  · exact hp 3 (by decide)
  · exact hp 0 (by decide)
theorem drop_0 (o : wd_S) : (cs_drop o).1 0 = o.1 0 := by simp only [cs_drop, wd_w_row, row_ne _ _ (show (0 : Nat) ≠ 5 by decide), wd_pi_1]
theorem ct_X2_save_4 {ad : Nat → Nat → Nat → Nat} {o : wd_S} {n m : Nat} (hp : ∀ q, q < 4 → 1 ≤ o.2.1 q ∧ o.2.1 q < 5) (G : cg (o.1 0) n m) (hk : o.1 5 0 = nI 4) (Z : bz (o.1 0)) : CT ad MX2_save [.ref (ad 9 0 0), .ref (ad 0 0 0)] o (RT none (cs_save (cs_drop o) 3)) := by
  refine CT.of (L := [some (.ref (ad 9 0 0)), some (.ref (ad 0 0 0)), none]) rfl rfl (by decide) (Nat.le_of_ble_eq_true rfl) rfl ?_
  refine aw_aload_n (x := ad 9 0 0) rfl dX2_save_0 ?_
  refine aw_geti (q := (5, 0)) (x := nI 4) wv9 rfl hk flX2_17 rfl (Or.inl rfl) dX2_save_1 ?_
  refine aw_iconst (v := 4) (by decide) dX2_save_4 ?_
  refine aw_icmp_lt (tgt := 12) (by decide) dX2_save_5 (fun z => absurd z (by decide)) (fun _ => ?_)
  refine aw_aload_n (x := ad 9 0 0) rfl dX2_save_8 ?_
  refine aw_rV (As := []) (S := []) (v := none) (o2 := (cs_drop o)) (ct_X2_drop hp) (mm_fit_of cbX2_dropOldest (by decide) (by decide)) wq427 cvX2_dropOldest wv9 rfl rfl rfl (Nat.le_of_ble_eq_true rfl) (by decide) (by decide) rfl dX2_save_9 ?_
  have hp := drop_pi hp
  refine aw_aload_n (x := ad 9 0 0) rfl dX2_save_12 ?_
  refine aw_aload_n (x := ad 9 0 0) rfl dX2_save_13 ?_
  refine aw_geti (q := (5, 0)) (x := nI 3) wv9 rfl rfl flX2_17 rfl (Or.inl rfl) dX2_save_14 ?_
  refine aw_rV (As := [.int (nI 3)]) (S := []) (v := some (.ref (ad 0 ((cs_drop o).2.1 3) 0))) (o2 := (cs_drop o)) (ct_X2_savedAt (c := 3) hp (by decide)) (mm_fit_of cbX2_savedAt (by decide) (by decide)) wq431 cvX2_savedAt wv9 rfl rfl rfl (Nat.le_of_ble_eq_true rfl) (by decide) (by decide) rfl dX2_save_17 ?_
  refine aw_astore_n (L2 := [some (.ref (ad 9 0 0)), some (.ref (ad 0 0 0)), some (.ref (ad 0 ((cs_drop o).2.1 3) 0))]) (by decide) rfl rfl dX2_save_20 ?_
  refine aw_aload_n (x := ad 0 ((cs_drop o).2.1 3) 0) rfl dX2_save_21 ?_
  refine aw_ifnull dX2_save_22 ?_
  refine aw_aload_n (x := ad 0 ((cs_drop o).2.1 3) 0) rfl dX2_save_25 ?_
  refine aw_aload_n (x := ad 0 0 0) rfl dX2_save_26 ?_
  refine aw_rV (As := [.ref (ad 0 0 0)]) (S := []) (v := none) (o2 := (wd_row (cs_drop o) ((cs_drop o).2.1 3) (cpr ((cs_drop o).1 ((cs_drop o).2.1 3)) ((cs_drop o).1 0)))) (ct_X5_copyFrom (hp 3 (by decide)).2 (by decide) (by have := hp 3 (by decide); omega) G.2.1 G.2.2.2.1 (by rw [drop_0]; exact G.1) (by rw [drop_0]; exact G.2.2.1) (by rw [drop_0]; exact Z)) (mm_fit_of cbX5_copyFrom (by decide) (by decide)) wq435 cvX5_copyFrom (wv0 (hp 3 (by decide)).2) rfl rfl rfl (Nat.le_of_ble_eq_true rfl) (by decide) (by decide) rfl dX2_save_27 ?_
  refine aw_aload_n (x := ad 9 0 0) rfl dX2_save_30 ?_
  refine aw_dup rfl dX2_save_31 ?_
  refine aw_geti (q := (5, 0)) (x := nI 3) wv9 rfl (by rw [row_ne _ _ (by have := hp 3 (by decide); omega)]; rfl) flX2_17 rfl (Or.inl rfl) dX2_save_32 ?_
  refine aw_iconst (v := 1) (by decide) dX2_save_35 ?_
  refine aw_iaddz (z := nI (3 + 1)) (nI_1 3) dX2_save_36 ?_
  refine aw_puti (q := (5, 0)) wv9 rfl fwX2_17 rfl rfl dX2_save_37 ?_
  exact aw_vret rfl (by decide) (by decide) dX2_save_40 ⟨rfl, by first | rfl | (simp [cs_save, wd_w_row, row_self, row_row]; done) | (simp_all [cs_save, wd_w_row, row_self, row_row]; done)⟩
def cs_restore (o : wd_S) (c : Nat) : wd_S := wd_row (wd_w o 5 0 (nI c)) 0 (cpr (o.1 0) (o.1 (o.2.1 c)))
theorem ct_X2_restore {ad : Nat → Nat → Nat → Nat} {o : wd_S} {c n m : Nat} (hp : ∀ q, q < 4 → 1 ≤ o.2.1 q ∧ o.2.1 q < 5) (G : cg (o.1 (o.2.1 c)) n m) (hk : o.1 5 0 = nI (c + 1)) (hc : c < 4) (Z : bz (o.1 (o.2.1 c))) : CT ad MX2_restore [.ref (ad 9 0 0), .ref (ad 0 0 0)] o (RT none (cs_restore o c)) := by
  refine CT.of (L := [some (.ref (ad 9 0 0)), some (.ref (ad 0 0 0)), none]) rfl rfl (by decide) (Nat.le_of_ble_eq_true rfl) rfl ?_
  refine aw_aload_n (x := ad 9 0 0) rfl dX2_restore_0 ?_
  refine aw_aload_n (x := ad 9 0 0) rfl dX2_restore_1 ?_
  refine aw_geti (q := (5, 0)) (x := nI (c + 1)) wv9 rfl hk flX2_17 rfl (Or.inl rfl) dX2_restore_2 ?_
  refine aw_iconst (v := 1) (by decide) dX2_restore_5 ?_
  refine aw_isubz (z := nI c) (nI_pred c) dX2_restore_6 ?_
  refine aw_rV (As := [.int (nI c)]) (S := []) (v := some (.ref (ad 0 (o.2.1 c) 0))) (o2 := o) (ct_X2_savedAt (c := c) hp hc) (mm_fit_of cbX2_savedAt (by decide) (by decide)) wq431 cvX2_savedAt wv9 rfl rfl rfl (Nat.le_of_ble_eq_true rfl) (by decide) (by decide) rfl dX2_restore_7 ?_
  refine aw_astore_n (L2 := [some (.ref (ad 9 0 0)), some (.ref (ad 0 0 0)), some (.ref (ad 0 (o.2.1 c) 0))]) (by decide) rfl rfl dX2_restore_10 ?_
  refine aw_aload_n (x := ad 0 (o.2.1 c) 0) rfl dX2_restore_11 ?_
  refine aw_ifnull dX2_restore_12 ?_
  refine aw_aload_n (x := ad 0 0 0) rfl dX2_restore_15 ?_
  refine aw_aload_n (x := ad 0 (o.2.1 c) 0) rfl dX2_restore_16 ?_
  refine aw_rV (As := [.ref (ad 0 (o.2.1 c) 0)]) (S := []) (v := none) (o2 := (wd_row o 0 (cpr (o.1 0) (o.1 (o.2.1 c))))) (ct_X5_copyFrom (by decide) (hp c hc).2 (by have h9 := hp c hc; show o.2.1 c ≠ 0; omega) G.2.1 G.2.2.2.1 G.1 G.2.2.1 Z) (mm_fit_of cbX5_copyFrom (by decide) (by decide)) wq435 cvX5_copyFrom (wv0 (by decide)) rfl rfl rfl (Nat.le_of_ble_eq_true rfl) (by decide) (by decide) rfl dX2_restore_17 ?_
  refine aw_aload_n (x := ad 9 0 0) rfl dX2_restore_20 ?_
  refine aw_dup rfl dX2_restore_21 ?_
  refine aw_geti (q := (5, 0)) (x := nI (c + 1)) wv9 rfl (by rw [row_ne _ _ (by decide)]; exact hk) flX2_17 rfl (Or.inl rfl) dX2_restore_22 ?_
  refine aw_iconst (v := 1) (by decide) dX2_restore_25 ?_
  refine aw_isubz (z := nI c) (nI_pred c) dX2_restore_26 ?_
  refine aw_puti (q := (5, 0)) wv9 rfl fwX2_17 rfl rfl dX2_restore_27 ?_
  exact aw_vret rfl (by decide) (by decide) dX2_restore_30 ⟨rfl, by unfold cs_restore; rw [wd_w_row, wd_w_row, row_ne _ _ (show (5 : Nat) ≠ 0 by decide)]; exact row_comm _ (by decide) _ _⟩
