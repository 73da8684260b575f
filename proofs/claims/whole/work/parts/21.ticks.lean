/-! a tick; dialing -/
theorem cg_turn {B : Nat → Int32} {n m l : Nat} (G : cg B n m) (hl : l < 5) : cg (cs_turn B n m l) n m := by
  unfold cs_turn
  split
  · exact cg_comeTo G hl
  · split
    · exact cg_end (cg_inc G (by decide)) hl
    · split
      · split
        · exact cg_units G
        · exact cg_end (cg_units G) hl
      · exact G
def cs_tim (n : Nat) : Nat → Nat → (Nat → Int32) → Nat → Int32
  | 0, _, B => B
  | k + 1, i, B => cs_tim n k (i + 1) (if i < n then upd B (20 * i + 2) (B (20 * i + 2) + 1) else B)
def cs_turns (n m : Nat) : Nat → Nat → (Nat → Int32) → Nat → Int32
  | 0, _, B => B
  | k + 1, i, B => cs_turns n m k (i + 1) (if i < n then cs_turn B n m i else B)
def cs_tick (B : Nat → Int32) (n m : Nat) : Nat → Int32 := cs_turns n m 5 0 (cs_tim n 5 0 B)
theorem cg_turns {n m : Nat} : ∀ (k i : Nat) (B : Nat → Int32), i + k = 5 → cg B n m → cg (cs_turns n m k i B) n m
  | 0, _, _, _, G => G
  | k + 1, i, B, h, G => by
    unfold cs_turns
    split
    · exact cg_turns k (i + 1) _ (by omega) (cg_turn G (by omega))
    · exact cg_turns k (i + 1) _ (by omega) G
theorem cg_tim {n m : Nat} : ∀ (k i : Nat) (B : Nat → Int32), i + k = 5 → cg B n m → cg (cs_tim n k i B) n m
  | 0, _, _, _, G => G
  | k + 1, i, B, h, G => by
    unfold cs_tim
    split
    · exact cg_tim k (i + 1) _ (by omega) (cg_upd G (by omega) (by omega) (fun _ _ => ⟨by omega, by omega⟩))
    · exact cg_tim k (i + 1) _ (by omega) G
theorem cg_tick {B : Nat → Int32} {n m : Nat} (G : cg B n m) : cg (cs_tick B n m) n m := cg_turns 5 0 _ (by decide) (cg_tim 5 0 B (by decide) G)
theorem lp_X1_turns {ad : Nat → Nat → Nat → Nat} {n m : Nat} : ∀ (k i : Nat) (o : wd_S) , i + k = 5 → (cg (o.1 0) n m) → AW ad MX1_passOneTick 38 [some (.ref (ad 8 0 0)), some (.int (nI i)), none] [] o 0 0 (RT none (wd_row o 0 (cs_turns n m (k) (i) (o.1 0)))) := by
  intro k
  induction k with
  | zero =>
    intro i o hk G
    have hi : i = 5 := by omega
    subst hi
    have g2 := G.2.1
    refine aw_iload_n (x := (nI 5)) rfl dX1_passOneTick_38 ?_
    refine aw_iconst (v := 5) (by decide) dX1_passOneTick_39 ?_
    refine aw_icmp_ge (tgt := 67) (by decide) dX1_passOneTick_40 (fun _ => ?_) (fun z => absurd (by decide) z)
    exact aw_vret rfl (by decide) (by decide) dX1_passOneTick_67 ⟨by first | rfl | (simp [cs_turns, row_id, mem]; done) | (simp_all [cs_turns, row_id, mem]; done), by first | rfl | (simp [cs_turns, row_id, mem]; done) | (simp_all [cs_turns, row_id, mem]; done)⟩
  | succ k ih =>
    intro i o hk G
    have hi : i < 5 := by omega
    have g2 := G.2.1
    refine aw_iload_n (x := (nI i)) rfl dX1_passOneTick_38 ?_
    refine aw_iconst (v := 5) (by decide) dX1_passOneTick_39 ?_
    refine aw_icmp_ge (tgt := 67) (by decide) dX1_passOneTick_40 (fun z => absurd z (nI_ge (b := 5) hi (by decide))) (fun _ => ?_)
    refine aw_aload_n (x := ad 8 0 0) rfl dX1_passOneTick_43 ?_
    refine aw_getr (q := (0, 0, 0)) wv8 rfl flX1_9 rfl rfl dX1_passOneTick_44 ?_
    refine aw_iload_n (x := (nI i)) rfl dX1_passOneTick_47 ?_
    by_cases q1 : i < n
    · skip
      refine aw_rV (v := some (.ref (ad 1 0 i))) (o2 := o) (ct_X5_loopAt_some G q1) (mm_fit_of cbX5_loopAt (by decide) (by decide)) wq564 cvX5_loopAt (wv0 (by decide)) rfl rfl rfl (Nat.le_of_ble_eq_true rfl) (by decide) (by decide) rfl dX1_passOneTick_48 ?_
      refine aw_astore_n (L2 := [some (.ref (ad 8 0 0)), some (.int (nI i)), some (.ref (ad 1 0 i))]) (by decide) rfl rfl dX1_passOneTick_51 ?_
      refine aw_aload_n (x := ad 1 0 i) rfl dX1_passOneTick_52 ?_
      refine aw_ifnull dX1_passOneTick_53 ?_
      refine aw_aload_n (x := ad 8 0 0) rfl dX1_passOneTick_56 ?_
      refine aw_aload_n (x := ad 1 0 i) rfl dX1_passOneTick_57 ?_
      refine aw_rV (As := [.ref (ad 1 0 i)]) (S := []) (v := none) (o2 := (wd_row o 0 (cs_turn (o.1 0) n m i))) (ct_X1_turn G (by omega)) (mm_fit_of cbX1_takeTurn (by decide) (by decide)) wq654 cvX1_takeTurn wv8 rfl rfl rfl (Nat.le_of_ble_eq_true rfl) (by decide) (by decide) rfl dX1_passOneTick_58 ?_
      refine aw_iinc (n := 1) (x := (nI i)) (v := nI (i + 1)) (L2 := [some (.ref (ad 8 0 0)), some (.int (nI (i + 1))), some (.ref (ad 1 0 i))]) rfl (nI_1 i) (by decide) rfl rfl dX1_passOneTick_61 ?_
      refine aw_goto (tgt := 38) (by decide) dX1_passOneTick_64 ?_
      have e9 : (RT none (wd_row o 0 (cs_turns n m (k + 1) (i) (o.1 0)))) = (RT none (wd_row (wd_row o 0 (cs_turn (o.1 0) n m i)) 0 (cs_turns n m (k) (i + 1) ((wd_row o 0 (cs_turn (o.1 0) n m i)).1 0)))) := by first | (simp [cs_turns, wd_w_row, row_self, row_row, mem, q1]; done) | (simp_all [cs_turns, wd_w_row, row_self, row_row, mem, q1]; done)
      rw [e9]
      exact AW.locs (ih (i + 1) (wd_row o 0 (cs_turn (o.1 0) n m i))  (by omega) (by (try simp only [wd_w_row, row_self]); first | exact cg_turn G (by omega) | exact G)) (lsub_keep (lsub_keep (lsub_none lsub_nil)))
    · skip
      refine aw_rV (v := some .null) (o2 := o) (ct_X5_loopAt_none (Or.inr (by rw [(G).1]; exact nI_le (by omega) (by omega)))) (mm_fit_of cbX5_loopAt (by decide) (by decide)) wq564 cvX5_loopAt (wv0 (by decide)) rfl rfl rfl (Nat.le_of_ble_eq_true rfl) (by decide) (by decide) rfl dX1_passOneTick_48 ?_
      refine aw_astore_nN (L2 := [some (.ref (ad 8 0 0)), some (.int (nI i)), some (.null)]) (by decide) rfl rfl dX1_passOneTick_51 ?_
      refine aw_aload_nN rfl dX1_passOneTick_52 ?_
      refine aw_ifnullN (tgt := 61) (by decide) dX1_passOneTick_53 ?_
      refine aw_iinc (n := 1) (x := (nI i)) (v := nI (i + 1)) (L2 := [some (.ref (ad 8 0 0)), some (.int (nI (i + 1))), some (.null)]) rfl (nI_1 i) (by decide) rfl rfl dX1_passOneTick_61 ?_
      refine aw_goto (tgt := 38) (by decide) dX1_passOneTick_64 ?_
      have e9 : (RT none (wd_row o 0 (cs_turns n m (k + 1) (i) (o.1 0)))) = (RT none (wd_row o 0 (cs_turns n m (k) (i + 1) (o.1 0)))) := by first | (simp [cs_turns, wd_w_row, row_self, row_row, mem, q1]; done) | (simp_all [cs_turns, wd_w_row, row_self, row_row, mem, q1]; done)
      rw [e9]
      exact AW.locs (ih (i + 1) o  (by omega) (by (try simp only [wd_w_row, row_self]); first | exact cg_turn G (by omega) | exact G)) (lsub_keep (lsub_keep (lsub_none lsub_nil)))
theorem lp_X1_tim {ad : Nat → Nat → Nat → Nat} {n m : Nat} : ∀ (k i : Nat) (o : wd_S) , i + k = 5 → (cg (o.1 0) n m) → AW ad MX1_passOneTick 2 [some (.ref (ad 8 0 0)), some (.int (nI i)), none] [] o 0 0 (RT none (wd_row o 0 (cs_turns n m 5 0 (cs_tim n (k) (i) (o.1 0))))) := by
  intro k
  induction k with
  | zero =>
    intro i o hk G
    have hi : i = 5 := by omega
    subst hi
    have g2 := G.2.1
    refine aw_iload_n (x := (nI 5)) rfl dX1_passOneTick_2 ?_
    refine aw_iconst (v := 5) (by decide) dX1_passOneTick_3 ?_
    refine aw_icmp_ge (tgt := 36) (by decide) dX1_passOneTick_4 (fun _ => ?_) (fun z => absurd (by decide) z)
    refine aw_iconst (v := 0) (by decide) dX1_passOneTick_36 ?_
    refine aw_istore_n (L2 := [some (.ref (ad 8 0 0)), some (.int 0), none]) (by decide) rfl rfl dX1_passOneTick_37 ?_
    exact AW.post (AW.locs (lp_X1_turns 5 0 o (by decide) G) (lsub_keep (lsub_keep (lsub_none lsub_nil)))) (fun r o2 q => by first | exact q | simpa [cs_tim] using q)
  | succ k ih =>
    intro i o hk G
    have hi : i < 5 := by omega
    have g2 := G.2.1
    refine aw_iload_n (x := (nI i)) rfl dX1_passOneTick_2 ?_
    refine aw_iconst (v := 5) (by decide) dX1_passOneTick_3 ?_
    refine aw_icmp_ge (tgt := 36) (by decide) dX1_passOneTick_4 (fun z => absurd z (nI_ge (b := 5) hi (by decide))) (fun _ => ?_)
    refine aw_aload_n (x := ad 8 0 0) rfl dX1_passOneTick_7 ?_
    refine aw_getr (q := (0, 0, 0)) wv8 rfl flX1_9 rfl rfl dX1_passOneTick_8 ?_
    refine aw_iload_n (x := (nI i)) rfl dX1_passOneTick_11 ?_
    by_cases q1 : i < n
    · skip
      refine aw_rV (v := some (.ref (ad 1 0 i))) (o2 := o) (ct_X5_loopAt_some G q1) (mm_fit_of cbX5_loopAt (by decide) (by decide)) wq564 cvX5_loopAt (wv0 (by decide)) rfl rfl rfl (Nat.le_of_ble_eq_true rfl) (by decide) (by decide) rfl dX1_passOneTick_12 ?_
      refine aw_astore_n (L2 := [some (.ref (ad 8 0 0)), some (.int (nI i)), some (.ref (ad 1 0 i))]) (by decide) rfl rfl dX1_passOneTick_15 ?_
      refine aw_aload_n (x := ad 1 0 i) rfl dX1_passOneTick_16 ?_
      refine aw_ifnull dX1_passOneTick_17 ?_
      refine aw_aload_n (x := ad 1 0 i) rfl dX1_passOneTick_20 ?_
      refine aw_dup rfl dX1_passOneTick_21 ?_
      refine aw_geti (q := (0, 20 * i + 2)) (x := o.1 0 (20 * i + 2)) (wv1 (by decide) (by omega)) rfl rfl flX1_125 rfl (Or.inl rfl) dX1_passOneTick_22 ?_
      refine aw_iconst (v := 1) (by decide) dX1_passOneTick_25 ?_
      refine aw_iaddz (z := (o.1 0 (20 * i + 2)) + 1) rfl dX1_passOneTick_26 ?_
      refine aw_puti (q := (0, 20 * i + 2)) (wv1 (by decide) (by omega)) rfl fwX1_125 rfl rfl dX1_passOneTick_27 ?_
      refine aw_iinc (n := 1) (x := (nI i)) (v := nI (i + 1)) (L2 := [some (.ref (ad 8 0 0)), some (.int (nI (i + 1))), some (.ref (ad 1 0 i))]) rfl (nI_1 i) (by decide) rfl rfl dX1_passOneTick_30 ?_
      refine aw_goto (tgt := 2) (by decide) dX1_passOneTick_33 ?_
      have e9 : (RT none (wd_row o 0 (cs_turns n m 5 0 (cs_tim n (k + 1) (i) (o.1 0))))) = (RT none (wd_row (wd_w o 0 (20 * i + 2) ((o.1 0 (20 * i + 2)) + 1)) 0 (cs_turns n m 5 0 (cs_tim n (k) (i + 1) ((wd_w o 0 (20 * i + 2) ((o.1 0 (20 * i + 2)) + 1)).1 0))))) := by first | (simp [cs_tim, wd_w_row, row_self, row_row, mem, q1]; done) | (simp_all [cs_tim, wd_w_row, row_self, row_row, mem, q1]; done)
      rw [e9]
      exact AW.locs (ih (i + 1) (wd_w o 0 (20 * i + 2) ((o.1 0 (20 * i + 2)) + 1))  (by omega) (by (try simp only [wd_w_row, row_self]); first | exact cg_upd G (by omega) (by omega) (fun _ _ => ⟨by omega, by omega⟩) | exact G)) (lsub_keep (lsub_keep (lsub_none lsub_nil)))
    · skip
      refine aw_rV (v := some .null) (o2 := o) (ct_X5_loopAt_none (Or.inr (by rw [(G).1]; exact nI_le (by omega) (by omega)))) (mm_fit_of cbX5_loopAt (by decide) (by decide)) wq564 cvX5_loopAt (wv0 (by decide)) rfl rfl rfl (Nat.le_of_ble_eq_true rfl) (by decide) (by decide) rfl dX1_passOneTick_12 ?_
      refine aw_astore_nN (L2 := [some (.ref (ad 8 0 0)), some (.int (nI i)), some (.null)]) (by decide) rfl rfl dX1_passOneTick_15 ?_
      refine aw_aload_nN rfl dX1_passOneTick_16 ?_
      refine aw_ifnullN (tgt := 30) (by decide) dX1_passOneTick_17 ?_
      refine aw_iinc (n := 1) (x := (nI i)) (v := nI (i + 1)) (L2 := [some (.ref (ad 8 0 0)), some (.int (nI (i + 1))), some (.null)]) rfl (nI_1 i) (by decide) rfl rfl dX1_passOneTick_30 ?_
      refine aw_goto (tgt := 2) (by decide) dX1_passOneTick_33 ?_
      have e9 : (RT none (wd_row o 0 (cs_turns n m 5 0 (cs_tim n (k + 1) (i) (o.1 0))))) = (RT none (wd_row o 0 (cs_turns n m 5 0 (cs_tim n (k) (i + 1) (o.1 0))))) := by first | (simp [cs_tim, wd_w_row, row_self, row_row, mem, q1]; done) | (simp_all [cs_tim, wd_w_row, row_self, row_row, mem, q1]; done)
      rw [e9]
      exact AW.locs (ih (i + 1) o  (by omega) (by (try simp only [wd_w_row, row_self]); first | exact cg_upd G (by omega) (by omega) (fun _ _ => ⟨by omega, by omega⟩) | exact G)) (lsub_keep (lsub_keep (lsub_none lsub_nil)))
theorem ct_X1_tick {ad : Nat → Nat → Nat → Nat} {o : wd_S} {n m : Nat} (G : cg (o.1 0) n m) : CT ad MX1_passOneTick [.ref (ad 8 0 0)] o (RT none (wd_row o 0 (cs_tick (o.1 0) n m))) := by
  refine CT.of (L := [some (.ref (ad 8 0 0)), none, none]) rfl rfl (by decide) (Nat.le_of_ble_eq_true rfl) rfl ?_
  refine aw_iconst (v := 0) (by decide) dX1_passOneTick_0 ?_
  refine aw_istore_n (L2 := [some (.ref (ad 8 0 0)), some (.int 0), none]) (by decide) rfl rfl dX1_passOneTick_1 ?_
  exact AW.post (AW.locs (lp_X1_tim 5 0 o (by decide) G) (lsub_keep (lsub_keep (lsub_keep lsub_nil)))) (fun r o2 q => by simpa [cs_tick] using q)
def hm (B : Nat → Int32) (s : Nat) : Nat := (B (101 + 8 * s + 1)).toNatClampNeg
theorem hm_of {B : Nat → Int32} {s l : Nat} (h : B (101 + 8 * s + 1) = nI l) (hl : l < 5) : hm B s = l := by
  unfold hm
  rw [h, nI_clamp (by omega)]
def cs_dials (B : Nat → Int32) (m s : Nat) (x : Int32) : Int32 := match lk m x with
  | none => 5
  | some e => if x = nI s then 5 else if cs_cut B (hm B e) e = 0 then (if B (101 + 8 * e + 1) = B (101 + 8 * s + 1) then 6 else if B (20 * hm B e + 1) = 0 then 2 else 5) else 5
theorem ct_X1_dials {ad : Nat → Nat → Nat → Nat} {o : wd_S} {n m l s : Nat} (G : cg (o.1 0) n m) (hl : l < n) (hs : s < m) (hh : o.1 0 (101 + 8 * s + 1) = nI l) {x : Int32} : CT ad MX1_phaseByDialing [.ref (ad 8 0 0), .ref (ad 3 0 s), .int x] o (RT (some (.int (cs_dials (o.1 0) m s x))) o) := by
  obtain ⟨g1, g2, g3, g4, g5, g6⟩ := id G
  have hl5 : l < 5 := by omega
  have hs16 : s < 16 := by omega
  refine CT.of (L := [some (.ref (ad 8 0 0)), some (.ref (ad 3 0 s)), some (.int x), none, none]) rfl rfl (by decide) (Nat.le_of_ble_eq_true rfl) rfl ?_
  refine aw_aload_n (x := ad 8 0 0) rfl dX1_phaseByDialing_0 ?_
  refine aw_getr (q := (0, 0, 0)) wv8 rfl flX1_9 rfl rfl dX1_phaseByDialing_1 ?_
  refine aw_iload_n (x := x) rfl dX1_phaseByDialing_4 ?_
  rcases k1 : lk m x with _ | e1
  · skip
    refine aw_rV (As := [.int x]) (S := []) (v := some (.null)) (o2 := o) (ct_X5_subscriberAt_none (lk_none G.2.2.1 (by have := G.2.1; have := G.2.2.2.1; omega) k1)) (mm_fit_of cbX5_subscriberAt (by decide) (by decide)) wq299 cvX5_subscriberAt (wv0 (by decide)) rfl rfl rfl (Nat.le_of_ble_eq_true rfl) (by decide) (by decide) rfl dX1_phaseByDialing_5 ?_
    refine aw_astore_nN (L2 := [some (.ref (ad 8 0 0)), some (.ref (ad 3 0 s)), some (.int x), some (.null), none]) (by decide) rfl rfl dX1_phaseByDialing_8 ?_
    refine aw_aload_nN rfl dX1_phaseByDialing_9 ?_
    refine aw_ifnullN (tgt := 32) (by decide) dX1_phaseByDialing_10 ?_
    refine aw_iconst (v := 5) (by decide) dX1_phaseByDialing_32 ?_
    exact aw_iret rfl (by decide) (by decide) dX1_phaseByDialing_33 ⟨by (first | with_reducible rfl | (simp [cs_dials, wd_w_row, row_self, row_row, k1]; done) | (simp_all [cs_dials, wd_w_row, row_self, row_row, k1]; done)), by (first | with_reducible rfl | (simp [cs_dials, wd_w_row, row_self, row_row, k1]; done) | (simp_all [cs_dials, wd_w_row, row_self, row_row, k1]; done))⟩
  · skip
    obtain ⟨k1e, k1l⟩ := lk_some k1
    have k1b : e1 < 16 := by have := G.2.1; have := G.2.2.2.1; omega
    refine aw_rV (As := [.int x]) (S := []) (v := some (.ref (ad 3 0 e1))) (o2 := o) (by rw [k1e]; exact ct_X5_subscriberAt_some G k1l) (mm_fit_of cbX5_subscriberAt (by decide) (by decide)) wq299 cvX5_subscriberAt (wv0 (by decide)) rfl rfl rfl (Nat.le_of_ble_eq_true rfl) (by decide) (by decide) rfl dX1_phaseByDialing_5 ?_
    refine aw_astore_n (L2 := [some (.ref (ad 8 0 0)), some (.ref (ad 3 0 s)), some (.int x), some (.ref (ad 3 0 e1)), none]) (by decide) rfl rfl dX1_phaseByDialing_8 ?_
    refine aw_aload_n (x := ad 3 0 e1) rfl dX1_phaseByDialing_9 ?_
    refine aw_ifnull dX1_phaseByDialing_10 ?_
    refine aw_iload_n (x := x) rfl dX1_phaseByDialing_13 ?_
    refine aw_aload_n (x := ad 3 0 s) rfl dX1_phaseByDialing_14 ?_
    refine aw_num (Or.inr rfl) (wv3 (by decide) (by omega)) flX1_40 rfl rfl dX1_phaseByDialing_15 ?_
    refine aw_icmp_eq (tgt := 32) (by decide) dX1_phaseByDialing_18 (fun b2 => ?_) (fun b2 => ?_)
    · skip
      refine aw_iconst (v := 5) (by decide) dX1_phaseByDialing_32 ?_
      exact aw_iret rfl (by decide) (by decide) dX1_phaseByDialing_33 ⟨by (first | with_reducible rfl | (simp [cs_dials, wd_w_row, row_self, row_row, k1, b2]; done) | (simp_all [cs_dials, wd_w_row, row_self, row_row, k1, b2]; done)), by (first | with_reducible rfl | (simp [cs_dials, wd_w_row, row_self, row_row, k1, b2]; done) | (simp_all [cs_dials, wd_w_row, row_self, row_row, k1, b2]; done))⟩
    · skip
      refine aw_aload_n (x := ad 8 0 0) rfl dX1_phaseByDialing_21 ?_
      refine aw_getr (q := (0, 0, 0)) wv8 rfl flX1_9 rfl rfl dX1_phaseByDialing_22 ?_
      refine aw_aload_n (x := ad 3 0 e1) rfl dX1_phaseByDialing_25 ?_
      obtain ⟨le, hle, hhe⟩ := G.2.2.2.2.1 e1 (by omega)
      have hme : hm (o.1 0) e1 = le := hm_of hhe (by have := G.2.1; omega)
      refine aw_rV (As := [.ref (ad 3 0 e1)]) (S := []) (v := some (.int (cs_cut (o.1 0) le e1))) (o2 := o) (ct_X5_isCutOff G hle (by omega) hhe) (mm_fit_of cbX5_isCutOff (by decide) (by decide)) wq637 cvX5_isCutOff (wv0 (by decide)) rfl rfl rfl (Nat.le_of_ble_eq_true rfl) (by decide) (by decide) rfl dX1_phaseByDialing_26 ?_
      refine aw_if_eq (tgt := 34) (by decide) dX1_phaseByDialing_29 (fun b3 => ?_) (fun b3 => ?_)
      · skip
        refine aw_aload_n (x := ad 3 0 e1) rfl dX1_phaseByDialing_34 ?_
        refine aw_geti (q := (0, 101 + 8 * e1 + 1)) (x := nI le) (wv3 (by decide) k1b) rfl hhe flX1_21 rfl (Or.inl rfl) dX1_phaseByDialing_35 ?_
        refine aw_aload_n (x := ad 3 0 s) rfl dX1_phaseByDialing_38 ?_
        refine aw_geti (q := (0, 101 + 8 * s + 1)) (x := nI l) (wv3 (by decide) (by omega)) rfl hh flX1_21 rfl (Or.inl rfl) dX1_phaseByDialing_39 ?_
        refine aw_icmp_ne (tgt := 48) (by decide) dX1_phaseByDialing_42 (fun b4 => ?_) (fun b4 => ?_)
        · skip
          refine aw_aload_n (x := ad 8 0 0) rfl dX1_phaseByDialing_48 ?_
          refine aw_getr (q := (0, 0, 0)) wv8 rfl flX1_9 rfl rfl dX1_phaseByDialing_49 ?_
          refine aw_aload_n (x := ad 3 0 e1) rfl dX1_phaseByDialing_52 ?_
          refine aw_geti (q := (0, 101 + 8 * e1 + 1)) (x := nI le) (wv3 (by decide) k1b) rfl hhe flX1_21 rfl (Or.inl rfl) dX1_phaseByDialing_53 ?_
          refine aw_rV (As := [.int (nI le)]) (S := []) (v := some (.ref (ad 1 0 le))) (o2 := o) (ct_X5_loopAt_some G hle) (mm_fit_of cbX5_loopAt (by decide) (by decide)) wq564 cvX5_loopAt (wv0 (by decide)) rfl rfl rfl (Nat.le_of_ble_eq_true rfl) (by decide) (by decide) rfl dX1_phaseByDialing_56 ?_
          refine aw_astore (L2 := [some (.ref (ad 8 0 0)), some (.ref (ad 3 0 s)), some (.int x), some (.ref (ad 3 0 e1)), some (.ref (ad 1 0 le))]) (by decide) rfl rfl dX1_phaseByDialing_59 ?_
          refine aw_aload (x := ad 1 0 le) rfl dX1_phaseByDialing_61 ?_
          refine aw_ifnull dX1_phaseByDialing_63 ?_
          refine aw_aload (x := ad 1 0 le) rfl dX1_phaseByDialing_66 ?_
          refine aw_geti (q := (0, 20 * le + 1)) (x := o.1 0 (20 * le + 1)) (wv1 (by decide) (by omega)) rfl rfl flX1_37 rfl (Or.inl rfl) dX1_phaseByDialing_68 ?_
          refine aw_if_ne (tgt := 78) (by decide) dX1_phaseByDialing_71 (fun b5 => ?_) (fun b5 => ?_)
          · skip
            refine aw_iconst (v := 5) (by decide) dX1_phaseByDialing_78 ?_
            exact aw_iret rfl (by decide) (by decide) dX1_phaseByDialing_79 ⟨by (first | with_reducible rfl | (simp [cs_dials, wd_w_row, row_self, row_row, k1, b2, hhe, hme, hh, b3, b4, b5]; done) | (simp_all [cs_dials, wd_w_row, row_self, row_row, k1, b2, hhe, hme, hh, b3, b4, b5]; done)), by (first | with_reducible rfl | (simp [cs_dials, wd_w_row, row_self, row_row, k1, b2, hhe, hme, hh, b3, b4, b5]; done) | (simp_all [cs_dials, wd_w_row, row_self, row_row, k1, b2, hhe, hme, hh, b3, b4, b5]; done))⟩
          · skip
            refine aw_iconst (v := 2) (by decide) dX1_phaseByDialing_74 ?_
            refine aw_goto (tgt := 79) (by decide) dX1_phaseByDialing_75 ?_
            exact aw_iret rfl (by decide) (by decide) dX1_phaseByDialing_79 ⟨by (first | with_reducible rfl | (simp [cs_dials, wd_w_row, row_self, row_row, k1, b2, hhe, hme, hh, b3, b4, b5]; done) | (simp_all [cs_dials, wd_w_row, row_self, row_row, k1, b2, hhe, hme, hh, b3, b4, b5]; done)), by (first | with_reducible rfl | (simp [cs_dials, wd_w_row, row_self, row_row, k1, b2, hhe, hme, hh, b3, b4, b5]; done) | (simp_all [cs_dials, wd_w_row, row_self, row_row, k1, b2, hhe, hme, hh, b3, b4, b5]; done))⟩
        · skip
          refine aw_bipush (v := 6) (by decide) dX1_phaseByDialing_45 ?_
          exact aw_iret rfl (by decide) (by decide) dX1_phaseByDialing_47 ⟨by (first | with_reducible rfl | (simp [cs_dials, wd_w_row, row_self, row_row, k1, b2, hhe, hme, hh, b3, b4]; done) | (simp_all [cs_dials, wd_w_row, row_self, row_row, k1, b2, hhe, hme, hh, b3, b4]; done)), by (first | with_reducible rfl | (simp [cs_dials, wd_w_row, row_self, row_row, k1, b2, hhe, hme, hh, b3, b4]; done) | (simp_all [cs_dials, wd_w_row, row_self, row_row, k1, b2, hhe, hme, hh, b3, b4]; done))⟩
      · skip
        refine aw_iconst (v := 5) (by decide) dX1_phaseByDialing_32 ?_
        exact aw_iret rfl (by decide) (by decide) dX1_phaseByDialing_33 ⟨by (first | with_reducible rfl | (simp [cs_dials, wd_w_row, row_self, row_row, k1, b2, hhe, hme, hh, b3]; done) | (simp_all [cs_dials, wd_w_row, row_self, row_row, k1, b2, hhe, hme, hh, b3]; done)), by (first | with_reducible rfl | (simp [cs_dials, wd_w_row, row_self, row_row, k1, b2, hhe, hme, hh, b3]; done) | (simp_all [cs_dials, wd_w_row, row_self, row_row, k1, b2, hhe, hme, hh, b3]; done))⟩
def cs_ring (B : Nat → Int32) (l e le : Nat) : Nat → Int32 := upd (upd (cs_cw B le 3 (nI e)) (20 * le + 5) (nI l)) (20 * l + 5) (nI le)
def cs_dial (B : Nat → Int32) (m l s : Nat) (x : Int32) : Nat → Int32 :=
  let q := cs_dials B m s x
  let B1 := cs_comeTo B l q
  if q = 5 then cs_inc B1 234 else if q = 6 then upd B1 (20 * l + 4) x else (match lk m x with | none => B1 | some e => cs_ring B1 l e (hm B e))
theorem ct_X1_ring {ad : Nat → Nat → Nat → Nat} {o : wd_S} {n m l e le : Nat} (G : cg (o.1 0) n m) (hl : l < 5) (he : e < m) (hle : le < n) (hhe : o.1 0 (101 + 8 * e + 1) = nI le) : CT ad MX1_ringFrom [.ref (ad 8 0 0), .ref (ad 1 0 l), .int (nI e)] o (RT none (wd_row o 0 (cs_ring (o.1 0) l e le))) := by
  obtain ⟨g1, g2, g3, g4, g5, g6⟩ := id G
  have he16 : e < 16 := by omega
  refine CT.of (L := [some (.ref (ad 8 0 0)), some (.ref (ad 1 0 l)), some (.int (nI e)), none, none]) rfl rfl (by decide) (Nat.le_of_ble_eq_true rfl) rfl ?_
  refine aw_aload_n (x := ad 8 0 0) rfl dX1_ringFrom_0 ?_
  refine aw_getr (q := (0, 0, 0)) wv8 rfl flX1_9 rfl rfl dX1_ringFrom_1 ?_
  refine aw_iload_n (x := (nI e)) rfl dX1_ringFrom_4 ?_
  refine aw_rV (As := [.int (nI e)]) (S := []) (v := some (.ref (ad 3 0 e))) (o2 := o) (ct_X5_subscriberAt_some G he) (mm_fit_of cbX5_subscriberAt (by decide) (by decide)) wq299 cvX5_subscriberAt (wv0 (by decide)) rfl rfl rfl (Nat.le_of_ble_eq_true rfl) (by decide) (by decide) rfl dX1_ringFrom_5 ?_
  refine aw_astore_n (L2 := [some (.ref (ad 8 0 0)), some (.ref (ad 1 0 l)), some (.int (nI e)), some (.ref (ad 3 0 e)), none]) (by decide) rfl rfl dX1_ringFrom_8 ?_
  refine aw_aload_n (x := ad 3 0 e) rfl dX1_ringFrom_9 ?_
  refine aw_ifnonnull (tgt := 17) (by decide) dX1_ringFrom_10 ?_
  refine aw_aload_n (x := ad 8 0 0) rfl dX1_ringFrom_17 ?_
  refine aw_getr (q := (0, 0, 0)) wv8 rfl flX1_9 rfl rfl dX1_ringFrom_18 ?_
  refine aw_aload_n (x := ad 3 0 e) rfl dX1_ringFrom_21 ?_
  refine aw_geti (q := (0, 101 + 8 * e + 1)) (x := nI le) (wv3 (by decide) (by omega)) rfl hhe flX1_21 rfl (Or.inl rfl) dX1_ringFrom_22 ?_
  refine aw_rV (As := [.int (nI le)]) (S := []) (v := some (.ref (ad 1 0 le))) (o2 := o) (ct_X5_loopAt_some G hle) (mm_fit_of cbX5_loopAt (by decide) (by decide)) wq564 cvX5_loopAt (wv0 (by decide)) rfl rfl rfl (Nat.le_of_ble_eq_true rfl) (by decide) (by decide) rfl dX1_ringFrom_25 ?_
  refine aw_astore (L2 := [some (.ref (ad 8 0 0)), some (.ref (ad 1 0 l)), some (.int (nI e)), some (.ref (ad 3 0 e)), some (.ref (ad 1 0 le))]) (by decide) rfl rfl dX1_ringFrom_28 ?_
  refine aw_aload (x := ad 1 0 le) rfl dX1_ringFrom_30 ?_
  refine aw_ifnull dX1_ringFrom_32 ?_
  refine aw_aload (x := ad 1 0 le) rfl dX1_ringFrom_35 ?_
  refine aw_iconst (v := 3) (by decide) dX1_ringFrom_37 ?_
  refine aw_iload_n (x := (nI e)) rfl dX1_ringFrom_38 ?_
  refine aw_rV (As := [.int 3, .int (nI e)]) (S := []) (v := none) (o2 := (wd_row o 0 (cs_cw (o.1 0) le 3 (nI e)))) (ct_X3_comeToWith (by decide) (by omega)) (mm_fit_of cbX3_comeToWith (by decide) (by decide)) wq566 cvX3_comeToWith (wv1 (by decide) (by omega)) rfl rfl rfl (Nat.le_of_ble_eq_true rfl) (by decide) (by decide) rfl dX1_ringFrom_39 ?_
  obtain ⟨o1, ho1⟩ : ∃ z, z = (wd_row o 0 (cs_cw (o.1 0) le 3 (nI e))) := ⟨_, rfl⟩
  rw [← ho1]
  have Go1 : cg (o1.1 0) n m := by rw [ho1]; rw [row_self]; exact cg_cw G (by omega)
  have hheo1 : o1.1 0 (101 + 8 * e + 1) = nI le := by rw [ho1]; rw [row_self]; rw [cw_hi (by omega)]; exact hhe
  refine aw_aload (x := ad 1 0 le) rfl dX1_ringFrom_42 ?_
  refine aw_aload_n (x := ad 1 0 l) rfl dX1_ringFrom_44 ?_
  refine aw_num (Or.inl rfl) (wv1 (by decide) hl) flX1_124 rfl rfl dX1_ringFrom_45 ?_
  refine aw_puti (q := (0, 20 * le + 5)) (wv1 (by decide) (by omega)) rfl fwX1_60 rfl rfl dX1_ringFrom_48 ?_
  refine aw_aload_n (x := ad 1 0 l) rfl dX1_ringFrom_51 ?_
  refine aw_aload (x := ad 1 0 le) rfl dX1_ringFrom_52 ?_
  refine aw_num (Or.inl rfl) (wv1 (by decide) (by omega)) flX1_124 rfl rfl dX1_ringFrom_54 ?_
  refine aw_puti (q := (0, 20 * l + 5)) (wv1 (by decide) hl) rfl fwX1_60 rfl rfl dX1_ringFrom_57 ?_
  exact aw_vret rfl (by decide) (by decide) dX1_ringFrom_60 ⟨rfl, by (subst ho1; first | with_reducible rfl | (simp [cs_ring, wd_w_row, row_self, row_row]; done) | (simp_all [cs_ring, wd_w_row, row_self, row_row]; done))⟩
theorem ct_X1_dial_none {ad : Nat → Nat → Nat → Nat} {o : wd_S} {n m l s : Nat} (G : cg (o.1 0) n m) (hl : l < n) (hs : s < m) (hh : o.1 0 (101 + 8 * s + 1) = nI l) {x : Int32} (hk : lk m x = none) : CT ad MX1_dialNumber [.ref (ad 8 0 0), .ref (ad 1 0 l), .ref (ad 3 0 s), .int x] o (RT none (wd_row o 0 (cs_dial (o.1 0) m l s x))) := by
  obtain ⟨g1, g2, g3, g4, g5, g6⟩ := id G
  have hl5 : l < 5 := by omega
  have hs16 : s < 16 := by omega
  have hq : cs_dials (o.1 0) m s x = 5 := by simp [cs_dials, hk]
  refine CT.of (L := [some (.ref (ad 8 0 0)), some (.ref (ad 1 0 l)), some (.ref (ad 3 0 s)), some (.int x), none]) rfl rfl (by decide) (Nat.le_of_ble_eq_true rfl) rfl ?_
  refine aw_aload_n (x := ad 8 0 0) rfl dX1_dialNumber_0 ?_
  refine aw_aload_n (x := ad 3 0 s) rfl dX1_dialNumber_1 ?_
  refine aw_iload_n (x := x) rfl dX1_dialNumber_2 ?_
  refine aw_rV (As := [.ref (ad 3 0 s), .int x]) (S := []) (v := some (.int 5)) (o2 := o) (by have := ct_X1_dials G hl hs hh (x := x) (ad := ad); rw [hq] at this; exact this) (mm_fit_of cbX1_phaseByDialing (by decide) (by decide)) wq633 cvX1_phaseByDialing wv8 rfl rfl rfl (Nat.le_of_ble_eq_true rfl) (by decide) (by decide) rfl dX1_dialNumber_3 ?_
  refine aw_istore (L2 := [some (.ref (ad 8 0 0)), some (.ref (ad 1 0 l)), some (.ref (ad 3 0 s)), some (.int x), some (.int 5)]) (by decide) rfl rfl dX1_dialNumber_6 ?_
  refine aw_aload_n (x := ad 1 0 l) rfl dX1_dialNumber_8 ?_
  refine aw_iload (x := 5) rfl dX1_dialNumber_9 ?_
  refine aw_rV (As := [.int 5]) (S := []) (v := none) (o2 := (wd_row o 0 (cs_comeTo (o.1 0) l 5))) (ct_X3_comeTo (by decide) (by omega)) (mm_fit_of cbX3_comeTo (by decide) (by decide)) wq574 cvX3_comeTo (wv1 (by decide) hl5) rfl rfl rfl (Nat.le_of_ble_eq_true rfl) (by decide) (by decide) rfl dX1_dialNumber_11 ?_
  obtain ⟨o1, ho1⟩ : ∃ z, z = (wd_row o 0 (cs_comeTo (o.1 0) l 5)) := ⟨_, rfl⟩
  rw [← ho1]
  have Go1 : cg (o1.1 0) n m := by rw [ho1]; rw [row_self]; exact cg_comeTo G (by omega)
  refine aw_iload (x := 5) rfl dX1_dialNumber_14 ?_
  refine aw_iconst (v := 5) (by decide) dX1_dialNumber_16 ?_
  refine aw_icmp_ne (tgt := 36) (by decide) dX1_dialNumber_17 (fun z => absurd z (by decide)) (fun _ => ?_)
  refine aw_aload_n (x := ad 8 0 0) rfl dX1_dialNumber_20 ?_
  refine aw_getr (q := (0, 0, 0)) wv8 rfl flX1_9 rfl rfl dX1_dialNumber_21 ?_
  refine aw_getr (q := (4, 0, 0)) (wv0 (by decide)) rfl flX1_70 rfl rfl dX1_dialNumber_24 ?_
  refine aw_iconst (v := 3) (by decide) dX1_dialNumber_27 ?_
  refine aw_dup2 rfl rfl dX1_dialNumber_28 ?_
  refine aw_ild (x := 3) (q := (0, 234)) (y := o1.1 0 234) (by decide) (wv4 (by decide)) rfl rfl (Nat.le_of_ble_eq_true rfl) rfl dX1_dialNumber_29 ?_
  refine aw_iconst (v := 1) (by decide) dX1_dialNumber_30 ?_
  refine aw_iaddz (z := (o1.1 0 234) + 1) rfl dX1_dialNumber_31 ?_
  refine aw_ist (x := 3) (q := (0, 234)) (y := (o1.1 0 234) + 1) (by decide) (wv4 (by decide)) rfl (Nat.le_of_ble_eq_true rfl) rfl dX1_dialNumber_32 ?_
  refine aw_goto (tgt := 57) (by decide) dX1_dialNumber_33 ?_
  exact aw_vret rfl (by decide) (by decide) dX1_dialNumber_57 ⟨rfl, by (subst ho1; first | with_reducible rfl | (simp [cs_dial, cs_inc, hk, hq, wd_w_row, row_self, row_row]; done) | (simp_all [cs_dial, cs_inc, hk, hq, wd_w_row, row_self, row_row]; done))⟩
theorem ct_X1_dial_some {ad : Nat → Nat → Nat → Nat} {o : wd_S} {n m l s : Nat} (G : cg (o.1 0) n m) (hl : l < n) (hs : s < m) (hh : o.1 0 (101 + 8 * s + 1) = nI l) {e : Nat} (he : e < m) : CT ad MX1_dialNumber [.ref (ad 8 0 0), .ref (ad 1 0 l), .ref (ad 3 0 s), .int (nI e)] o (RT none (wd_row o 0 (cs_dial (o.1 0) m l s (nI e)))) := by
  obtain ⟨g1, g2, g3, g4, g5, g6⟩ := id G
  have hl5 : l < 5 := by omega
  have hs16 : s < 16 := by omega
  have he16 : e < 16 := by omega
  obtain ⟨le, hle, hhe⟩ := g5 e he
  have hme : hm (o.1 0) e = le := hm_of hhe (by omega)
  have hk : lk m (nI e) = some e := lk_nI he g4
  refine CT.of (L := [some (.ref (ad 8 0 0)), some (.ref (ad 1 0 l)), some (.ref (ad 3 0 s)), some (.int (nI e)), none]) rfl rfl (by decide) (Nat.le_of_ble_eq_true rfl) rfl ?_
  refine aw_aload_n (x := ad 8 0 0) rfl dX1_dialNumber_0 ?_
  refine aw_aload_n (x := ad 3 0 s) rfl dX1_dialNumber_1 ?_
  refine aw_iload_n (x := (nI e)) rfl dX1_dialNumber_2 ?_
  refine aw_rV (As := [.ref (ad 3 0 s), .int (nI e)]) (S := []) (v := some (.int (cs_dials (o.1 0) m s (nI e)))) (o2 := o) (ct_X1_dials G hl hs hh) (mm_fit_of cbX1_phaseByDialing (by decide) (by decide)) wq633 cvX1_phaseByDialing wv8 rfl rfl rfl (Nat.le_of_ble_eq_true rfl) (by decide) (by decide) rfl dX1_dialNumber_3 ?_
  refine aw_istore (L2 := [some (.ref (ad 8 0 0)), some (.ref (ad 1 0 l)), some (.ref (ad 3 0 s)), some (.int (nI e)), some (.int (cs_dials (o.1 0) m s (nI e)))]) (by decide) rfl rfl dX1_dialNumber_6 ?_
  refine aw_aload_n (x := ad 1 0 l) rfl dX1_dialNumber_8 ?_
  refine aw_iload (x := (cs_dials (o.1 0) m s (nI e))) rfl dX1_dialNumber_9 ?_
  refine aw_rV (As := [.int (cs_dials (o.1 0) m s (nI e))]) (S := []) (v := none) (o2 := (wd_row o 0 (cs_comeTo (o.1 0) l (cs_dials (o.1 0) m s (nI e))))) (ct_X3_comeTo (by decide) (by omega)) (mm_fit_of cbX3_comeTo (by decide) (by decide)) wq574 cvX3_comeTo (wv1 (by decide) hl5) rfl rfl rfl (Nat.le_of_ble_eq_true rfl) (by decide) (by decide) rfl dX1_dialNumber_11 ?_
  obtain ⟨o1, ho1⟩ : ∃ z, z = (wd_row o 0 (cs_comeTo (o.1 0) l (cs_dials (o.1 0) m s (nI e)))) := ⟨_, rfl⟩
  rw [← ho1]
  have Go1 : cg (o1.1 0) n m := by rw [ho1]; rw [row_self]; exact cg_comeTo G (by omega)
  have hheo1 : o1.1 0 (101 + 8 * e + 1) = nI le := by rw [ho1]; rw [row_self]; rw [comeTo_hi (by omega)]; exact hhe
  refine aw_iload (x := (cs_dials (o.1 0) m s (nI e))) rfl dX1_dialNumber_14 ?_
  refine aw_iconst (v := 5) (by decide) dX1_dialNumber_16 ?_
  refine aw_icmp_ne (tgt := 36) (by decide) dX1_dialNumber_17 (fun b1 => ?_) (fun b1 => ?_)
  · skip
    refine aw_iload (x := (cs_dials (o.1 0) m s (nI e))) rfl dX1_dialNumber_36 ?_
    refine aw_bipush (v := 6) (by decide) dX1_dialNumber_38 ?_
    refine aw_icmp_ne (tgt := 51) (by decide) dX1_dialNumber_40 (fun b2 => ?_) (fun b2 => ?_)
    · skip
      refine aw_aload_n (x := ad 8 0 0) rfl dX1_dialNumber_51 ?_
      refine aw_aload_n (x := ad 1 0 l) rfl dX1_dialNumber_52 ?_
      refine aw_iload_n (x := (nI e)) rfl dX1_dialNumber_53 ?_
      refine aw_rV (As := [.ref (ad 1 0 l), .int (nI e)]) (S := []) (v := none) (o2 := (wd_row o1 0 (cs_ring (o1.1 0) l e le))) (ct_X1_ring Go1 hl5 he hle hheo1) (mm_fit_of cbX1_ringFrom (by decide) (by decide)) wq638 cvX1_ringFrom wv8 rfl rfl rfl (Nat.le_of_ble_eq_true rfl) (by decide) (by decide) rfl dX1_dialNumber_54 ?_
      exact aw_vret rfl (by decide) (by decide) dX1_dialNumber_57 ⟨rfl, by (subst ho1; first | with_reducible rfl | (simp [cs_dial, cs_inc, hk, hme, wd_w_row, row_self, row_row, b1, b2]; done) | (simp_all [cs_dial, cs_inc, hk, hme, wd_w_row, row_self, row_row, b1, b2]; done))⟩
    · skip
      refine aw_aload_n (x := ad 1 0 l) rfl dX1_dialNumber_43 ?_
      refine aw_iload_n (x := (nI e)) rfl dX1_dialNumber_44 ?_
      refine aw_puti (q := (0, 20 * l + 4)) (wv1 (by decide) hl5) rfl fwX1_74 rfl rfl dX1_dialNumber_45 ?_
      refine aw_goto (tgt := 57) (by decide) dX1_dialNumber_48 ?_
      exact aw_vret rfl (by decide) (by decide) dX1_dialNumber_57 ⟨rfl, by (subst ho1; first | with_reducible rfl | (simp [cs_dial, cs_inc, hk, hme, wd_w_row, row_self, row_row, b1, b2]; done) | (simp_all [cs_dial, cs_inc, hk, hme, wd_w_row, row_self, row_row, b1, b2]; done))⟩
  · skip
    refine aw_aload_n (x := ad 8 0 0) rfl dX1_dialNumber_20 ?_
    refine aw_getr (q := (0, 0, 0)) wv8 rfl flX1_9 rfl rfl dX1_dialNumber_21 ?_
    refine aw_getr (q := (4, 0, 0)) (wv0 (by decide)) rfl flX1_70 rfl rfl dX1_dialNumber_24 ?_
    refine aw_iconst (v := 3) (by decide) dX1_dialNumber_27 ?_
    refine aw_dup2 rfl rfl dX1_dialNumber_28 ?_
    refine aw_ild (x := 3) (q := (0, 234)) (y := o1.1 0 234) (by decide) (wv4 (by decide)) rfl rfl (Nat.le_of_ble_eq_true rfl) rfl dX1_dialNumber_29 ?_
    refine aw_iconst (v := 1) (by decide) dX1_dialNumber_30 ?_
    refine aw_iaddz (z := (o1.1 0 234) + 1) rfl dX1_dialNumber_31 ?_
    refine aw_ist (x := 3) (q := (0, 234)) (y := (o1.1 0 234) + 1) (by decide) (wv4 (by decide)) rfl (Nat.le_of_ble_eq_true rfl) rfl dX1_dialNumber_32 ?_
    refine aw_goto (tgt := 57) (by decide) dX1_dialNumber_33 ?_
    exact aw_vret rfl (by decide) (by decide) dX1_dialNumber_57 ⟨rfl, by (subst ho1; first | with_reducible rfl | (simp [cs_dial, cs_inc, hk, hme, wd_w_row, row_self, row_row, b1]; done) | (simp_all [cs_dial, cs_inc, hk, hme, wd_w_row, row_self, row_row, b1]; done))⟩
theorem ct_X1_dial {ad : Nat → Nat → Nat → Nat} {o : wd_S} {n m l s : Nat} (G : cg (o.1 0) n m) (hl : l < n) (hs : s < m) (hh : o.1 0 (101 + 8 * s + 1) = nI l) {x : Int32} : CT ad MX1_dialNumber [.ref (ad 8 0 0), .ref (ad 1 0 l), .ref (ad 3 0 s), .int x] o (RT none (wd_row o 0 (cs_dial (o.1 0) m l s x))) := by
  cases hk : lk m x with
  | none => exact ct_X1_dial_none G hl hs hh hk
  | some e =>
    obtain ⟨rfl, he⟩ := lk_some hk
    exact ct_X1_dial_some G hl hs hh he
