/-! State: who is where; counting over the subscribers. A row B of a state: B 0 loops, B 101 subscribers, 101 + 8 * s + 1 home, 2 position, 3 code, 4 privacy, 5 weight, 6 off, 7 locked out, 8 meter -/
def cg (B : Nat → Int32) (n m : Nat) : Prop := B 0 = nI n ∧ n ≤ 5 ∧ B 101 = nI m ∧ m ≤ 16 ∧ (∀ s, s < m → ∃ l, l < n ∧ B (101 + 8 * s + 1) = nI l) ∧ (∀ s, s < m → 1 ≤ B (101 + 8 * s + 3) ∧ B (101 + 8 * s + 3) ≤ 14)
def anyF (p : Nat → Bool) : Nat → Nat → Bool
  | 0, _ => false
  | k + 1, i => p i || anyF p k (i + 1)
def sumF (f : Nat → Int32) : Nat → Nat → Int32
  | 0, _ => 0
  | k + 1, i => f i + sumF f k (i + 1)
def lsub (L2 L : List (Option Value)) : Prop := ∀ (i : Nat) (v : Value), L2[i]? = some (some v) → L[i]? = some (some v)
theorem lsub_nil {L : List (Option Value)} : lsub [] L := fun i v h => by simp at h
theorem lsub_keep {a : Option Value} {L2 L : List (Option Value)} (h : lsub L2 L) : lsub (a :: L2) (a :: L) := fun i v q => by
  cases i with
  | zero => exact q
  | succ i => exact h i v q
theorem lsub_none {a : Option Value} {L2 L : List (Option Value)} (h : lsub L2 L) : lsub (none :: L2) (a :: L) := fun i v q => by
  cases i with
  | zero => cases q
  | succ i => exact h i v q
/-- subscriber i is of loop l -/
abbrev mem (B : Nat → Int32) (m l i : Nat) : Prop := i < m ∧ B (101 + 8 * i + 1) = nI l
theorem ct_X5_loopAt_some {ad : Nat → Nat → Nat → Nat} {o : wd_S} {n m l : Nat} (G : cg (o.1 0) n m) (hl : l < n) : CT ad MX5_loopAt [.ref (ad 0 0 0), .int (nI l)] o (RT (some (.ref (ad 1 0 l))) o) := by
  obtain ⟨g1, g2, g3, g4, g5, g6⟩ := id G
  refine CT.of (L := [some (.ref (ad 0 0 0)), some (.int (nI l))]) rfl rfl (by decide) (Nat.le_of_ble_eq_true rfl) rfl ?_
  refine aw_iload_n (x := (nI l)) rfl dX5_loopAt_0 ?_
  refine aw_if_lt (tgt := 26) (by decide) dX5_loopAt_1 (fun z => absurd z (nI_pos (by omega))) (fun _ => ?_)
  refine aw_iload_n (x := (nI l)) rfl dX5_loopAt_4 ?_
  refine aw_aload_n (x := ad 0 0 0) rfl dX5_loopAt_5 ?_
  refine aw_geti (q := (0, 0)) (x := o.1 0 0) (wv0 (by decide)) rfl rfl flX5_27 rfl (Or.inl rfl) dX5_loopAt_6 ?_
  refine aw_icmp_ge (tgt := 26) (by decide) dX5_loopAt_9 (fun z => absurd z (by rw [g1]; exact nI_ge hl (by omega))) (fun _ => ?_)
  refine aw_iload_n (x := (nI l)) rfl dX5_loopAt_12 ?_
  refine aw_iconst (v := 5) (by decide) dX5_loopAt_13 ?_
  refine aw_icmp_ge (tgt := 26) (by decide) dX5_loopAt_14 (fun z => absurd z (nI_ge (b := 5) (by omega) (by decide))) (fun _ => ?_)
  refine aw_aload_n (x := ad 0 0 0) rfl dX5_loopAt_17 ?_
  refine aw_getr (q := (5, 0, 0)) (wv0 (by decide)) rfl flX5_11 rfl rfl dX5_loopAt_18 ?_
  refine aw_iload_n (x := (nI l)) rfl dX5_loopAt_21 ?_
  refine aw_ald (x := l) (ty := 2) (q := (1, 0, l)) rfl (wv5 (by decide)) (wr5 (by omega)) (by show _ < 5; omega) rfl (by decide) (by decide) dX5_loopAt_22 ?_
  refine aw_goto (tgt := 27) (by decide) dX5_loopAt_23 ?_
  exact aw_aret rfl (Or.inr ⟨_, rfl⟩) (by decide) (by decide) dX5_loopAt_27 ⟨by first | rfl | (simp [wd_w_row, row_self, row_row]; done) | (simp_all [wd_w_row, row_self, row_row]; done), by first | rfl | (simp [wd_w_row, row_self, row_row]; done) | (simp_all [wd_w_row, row_self, row_row]; done)⟩
theorem ct_X5_loopAt_none {ad : Nat → Nat → Nat → Nat} {o : wd_S} {x : Int32} (h : x < 0 ∨ x ≥ o.1 0 0) : CT ad MX5_loopAt [.ref (ad 0 0 0), .int x] o (RT (some .null) o) := by
  refine CT.of (L := [some (.ref (ad 0 0 0)), some (.int x)]) rfl rfl (by decide) (Nat.le_of_ble_eq_true rfl) rfl ?_
  refine aw_iload_n (x := x) rfl dX5_loopAt_0 ?_
  refine aw_if_lt (tgt := 26) (by decide) dX5_loopAt_1 (fun b1 => ?_) (fun b1 => ?_)
  · skip
    refine aw_null dX5_loopAt_26 ?_
    exact aw_aret rfl (Or.inl rfl) (by decide) (by decide) dX5_loopAt_27 ⟨by first | rfl | (simp [wd_w_row, row_self, row_row, b1]; done) | (simp_all [wd_w_row, row_self, row_row, b1]; done), by first | rfl | (simp [wd_w_row, row_self, row_row, b1]; done) | (simp_all [wd_w_row, row_self, row_row, b1]; done)⟩
  · skip
    refine aw_iload_n (x := x) rfl dX5_loopAt_4 ?_
    refine aw_aload_n (x := ad 0 0 0) rfl dX5_loopAt_5 ?_
    refine aw_geti (q := (0, 0)) (x := o.1 0 0) (wv0 (by decide)) rfl rfl flX5_27 rfl (Or.inl rfl) dX5_loopAt_6 ?_
    refine aw_icmp_ge (tgt := 26) (by decide) dX5_loopAt_9 (fun _ => ?_) (fun z => absurd (h.resolve_left b1) z)
    refine aw_null dX5_loopAt_26 ?_
    exact aw_aret rfl (Or.inl rfl) (by decide) (by decide) dX5_loopAt_27 ⟨by first | rfl | (simp [wd_w_row, row_self, row_row, b1]; done) | (simp_all [wd_w_row, row_self, row_row, b1]; done), by first | rfl | (simp [wd_w_row, row_self, row_row, b1]; done) | (simp_all [wd_w_row, row_self, row_row, b1]; done)⟩
theorem ct_X5_subscriberAt_some {ad : Nat → Nat → Nat → Nat} {o : wd_S} {n m s : Nat} (G : cg (o.1 0) n m) (hs : s < m) : CT ad MX5_subscriberAt [.ref (ad 0 0 0), .int (nI s)] o (RT (some (.ref (ad 3 0 s))) o) := by
  obtain ⟨g1, g2, g3, g4, g5, g6⟩ := id G
  refine CT.of (L := [some (.ref (ad 0 0 0)), some (.int (nI s))]) rfl rfl (by decide) (Nat.le_of_ble_eq_true rfl) rfl ?_
  refine aw_iload_n (x := (nI s)) rfl dX5_subscriberAt_0 ?_
  refine aw_if_lt (tgt := 27) (by decide) dX5_subscriberAt_1 (fun z => absurd z (nI_pos (by omega))) (fun _ => ?_)
  refine aw_iload_n (x := (nI s)) rfl dX5_subscriberAt_4 ?_
  refine aw_aload_n (x := ad 0 0 0) rfl dX5_subscriberAt_5 ?_
  refine aw_geti (q := (0, 101)) (x := o.1 0 101) (wv0 (by decide)) rfl rfl flX5_31 rfl (Or.inl rfl) dX5_subscriberAt_6 ?_
  refine aw_icmp_ge (tgt := 27) (by decide) dX5_subscriberAt_9 (fun z => absurd z (by rw [g3]; exact nI_ge hs (by omega))) (fun _ => ?_)
  refine aw_iload_n (x := (nI s)) rfl dX5_subscriberAt_12 ?_
  refine aw_bipush (v := 16) (by decide) dX5_subscriberAt_13 ?_
  refine aw_icmp_ge (tgt := 27) (by decide) dX5_subscriberAt_15 (fun z => absurd z (nI_ge (b := 16) (by omega) (by decide))) (fun _ => ?_)
  refine aw_aload_n (x := ad 0 0 0) rfl dX5_subscriberAt_18 ?_
  refine aw_getr (q := (6, 0, 0)) (wv0 (by decide)) rfl flX5_19 rfl rfl dX5_subscriberAt_19 ?_
  refine aw_iload_n (x := (nI s)) rfl dX5_subscriberAt_22 ?_
  refine aw_ald (x := s) (ty := 3) (q := (3, 0, s)) rfl (wv6 (by decide)) (wr6 (by omega)) (by show _ < 16; omega) rfl (by decide) (by decide) dX5_subscriberAt_23 ?_
  refine aw_goto (tgt := 28) (by decide) dX5_subscriberAt_24 ?_
  exact aw_aret rfl (Or.inr ⟨_, rfl⟩) (by decide) (by decide) dX5_subscriberAt_28 ⟨by first | rfl | (simp [wd_w_row, row_self, row_row]; done) | (simp_all [wd_w_row, row_self, row_row]; done), by first | rfl | (simp [wd_w_row, row_self, row_row]; done) | (simp_all [wd_w_row, row_self, row_row]; done)⟩
theorem ct_X5_subscriberAt_none {ad : Nat → Nat → Nat → Nat} {o : wd_S} {x : Int32} (h : x < 0 ∨ x ≥ o.1 0 101) : CT ad MX5_subscriberAt [.ref (ad 0 0 0), .int x] o (RT (some .null) o) := by
  refine CT.of (L := [some (.ref (ad 0 0 0)), some (.int x)]) rfl rfl (by decide) (Nat.le_of_ble_eq_true rfl) rfl ?_
  refine aw_iload_n (x := x) rfl dX5_subscriberAt_0 ?_
  refine aw_if_lt (tgt := 27) (by decide) dX5_subscriberAt_1 (fun b1 => ?_) (fun b1 => ?_)
  · skip
    refine aw_null dX5_subscriberAt_27 ?_
    exact aw_aret rfl (Or.inl rfl) (by decide) (by decide) dX5_subscriberAt_28 ⟨by first | rfl | (simp [wd_w_row, row_self, row_row, b1]; done) | (simp_all [wd_w_row, row_self, row_row, b1]; done), by first | rfl | (simp [wd_w_row, row_self, row_row, b1]; done) | (simp_all [wd_w_row, row_self, row_row, b1]; done)⟩
  · skip
    refine aw_iload_n (x := x) rfl dX5_subscriberAt_4 ?_
    refine aw_aload_n (x := ad 0 0 0) rfl dX5_subscriberAt_5 ?_
    refine aw_geti (q := (0, 101)) (x := o.1 0 101) (wv0 (by decide)) rfl rfl flX5_31 rfl (Or.inl rfl) dX5_subscriberAt_6 ?_
    refine aw_icmp_ge (tgt := 27) (by decide) dX5_subscriberAt_9 (fun _ => ?_) (fun z => absurd (h.resolve_left b1) z)
    refine aw_null dX5_subscriberAt_27 ?_
    exact aw_aret rfl (Or.inl rfl) (by decide) (by decide) dX5_subscriberAt_28 ⟨by first | rfl | (simp [wd_w_row, row_self, row_row, b1]; done) | (simp_all [wd_w_row, row_self, row_row, b1]; done), by first | rfl | (simp [wd_w_row, row_self, row_row, b1]; done) | (simp_all [wd_w_row, row_self, row_row, b1]; done)⟩
theorem ct_X5_memberAt_some {ad : Nat → Nat → Nat → Nat} {o : wd_S} {n m l s : Nat} (G : cg (o.1 0) n m) (hl : l < 5) (hm : mem (o.1 0) m l s) : CT ad MX5_memberAt [.ref (ad 0 0 0), .ref (ad 1 0 l), .int (nI s)] o (RT (some (.ref (ad 3 0 s))) o) := by
  obtain ⟨g1, g2, g3, g4, g5, g6⟩ := id G
  have hs := hm.1
  refine CT.of (L := [some (.ref (ad 0 0 0)), some (.ref (ad 1 0 l)), some (.int (nI s)), none]) rfl rfl (by decide) (Nat.le_of_ble_eq_true rfl) rfl ?_
  refine aw_aload_n (x := ad 0 0 0) rfl dX5_memberAt_0 ?_
  refine aw_iload_n (x := (nI s)) rfl dX5_memberAt_1 ?_
  refine aw_rV (v := some (.ref (ad 3 0 s))) (o2 := o) (ct_X5_subscriberAt_some G hs) (mm_fit_of cbX5_subscriberAt (by decide) (by decide)) wq279 cvX5_subscriberAt (wv0 (by decide)) rfl rfl rfl (Nat.le_of_ble_eq_true rfl) (by decide) (by decide) rfl dX5_memberAt_2 ?_
  refine aw_astore_n (L2 := [some (.ref (ad 0 0 0)), some (.ref (ad 1 0 l)), some (.int (nI s)), some (.ref (ad 3 0 s))]) (by decide) rfl rfl dX5_memberAt_5 ?_
  refine aw_aload_n (x := ad 3 0 s) rfl dX5_memberAt_6 ?_
  refine aw_ifnull dX5_memberAt_7 ?_
  refine aw_aload_n (x := ad 3 0 s) rfl dX5_memberAt_10 ?_
  refine aw_geti (q := (0, 101 + 8 * s + 1)) (x := o.1 0 (101 + 8 * s + 1)) (wv3 (by decide) (by omega)) rfl rfl flX5_48 rfl (Or.inl rfl) dX5_memberAt_11 ?_
  refine aw_aload_n (x := ad 1 0 l) rfl dX5_memberAt_14 ?_
  refine aw_num (Or.inl rfl) (wv1 (by decide) hl) flX5_51 rfl rfl dX5_memberAt_15 ?_
  refine aw_icmp_ne (tgt := 25) (by decide) dX5_memberAt_18 (fun z => absurd hm.2 z) (fun _ => ?_)
  refine aw_aload_n (x := ad 3 0 s) rfl dX5_memberAt_21 ?_
  refine aw_goto (tgt := 26) (by decide) dX5_memberAt_22 ?_
  exact aw_aret rfl (Or.inr ⟨_, rfl⟩) (by decide) (by decide) dX5_memberAt_26 ⟨by first | rfl | (simp [wd_w_row, row_self, row_row]; done) | (simp_all [wd_w_row, row_self, row_row]; done), by first | rfl | (simp [wd_w_row, row_self, row_row]; done) | (simp_all [wd_w_row, row_self, row_row]; done)⟩
theorem ct_X5_memberAt_n1 {ad : Nat → Nat → Nat → Nat} {o : wd_S} {n m l s : Nat} (G : cg (o.1 0) n m) (hl : l < 5) (hs : m ≤ s) (hs2 : s < 16) : CT ad MX5_memberAt [.ref (ad 0 0 0), .ref (ad 1 0 l), .int (nI s)] o (RT (some .null) o) := by
  obtain ⟨g1, g2, g3, g4, g5, g6⟩ := id G
  refine CT.of (L := [some (.ref (ad 0 0 0)), some (.ref (ad 1 0 l)), some (.int (nI s)), none]) rfl rfl (by decide) (Nat.le_of_ble_eq_true rfl) rfl ?_
  refine aw_aload_n (x := ad 0 0 0) rfl dX5_memberAt_0 ?_
  refine aw_iload_n (x := (nI s)) rfl dX5_memberAt_1 ?_
  refine aw_rV (v := some (.null)) (o2 := o) (ct_X5_subscriberAt_none (Or.inr (by rw [g3]; exact nI_le hs (by omega)))) (mm_fit_of cbX5_subscriberAt (by decide) (by decide)) wq279 cvX5_subscriberAt (wv0 (by decide)) rfl rfl rfl (Nat.le_of_ble_eq_true rfl) (by decide) (by decide) rfl dX5_memberAt_2 ?_
  refine aw_astore_nN (L2 := [some (.ref (ad 0 0 0)), some (.ref (ad 1 0 l)), some (.int (nI s)), some (.null)]) (by decide) rfl rfl dX5_memberAt_5 ?_
  refine aw_aload_nN rfl dX5_memberAt_6 ?_
  refine aw_ifnullN (tgt := 25) (by decide) dX5_memberAt_7 ?_
  refine aw_null dX5_memberAt_25 ?_
  exact aw_aret rfl (Or.inl rfl) (by decide) (by decide) dX5_memberAt_26 ⟨by first | rfl | (simp [wd_w_row, row_self, row_row]; done) | (simp_all [wd_w_row, row_self, row_row]; done), by first | rfl | (simp [wd_w_row, row_self, row_row]; done) | (simp_all [wd_w_row, row_self, row_row]; done)⟩
theorem ct_X5_memberAt_n2 {ad : Nat → Nat → Nat → Nat} {o : wd_S} {n m l s : Nat} (G : cg (o.1 0) n m) (hl : l < 5) (hs : s < m) (hm : o.1 0 (101 + 8 * s + 1) ≠ nI l) : CT ad MX5_memberAt [.ref (ad 0 0 0), .ref (ad 1 0 l), .int (nI s)] o (RT (some .null) o) := by
  obtain ⟨g1, g2, g3, g4, g5, g6⟩ := id G
  refine CT.of (L := [some (.ref (ad 0 0 0)), some (.ref (ad 1 0 l)), some (.int (nI s)), none]) rfl rfl (by decide) (Nat.le_of_ble_eq_true rfl) rfl ?_
  refine aw_aload_n (x := ad 0 0 0) rfl dX5_memberAt_0 ?_
  refine aw_iload_n (x := (nI s)) rfl dX5_memberAt_1 ?_
  refine aw_rV (v := some (.ref (ad 3 0 s))) (o2 := o) (ct_X5_subscriberAt_some G hs) (mm_fit_of cbX5_subscriberAt (by decide) (by decide)) wq279 cvX5_subscriberAt (wv0 (by decide)) rfl rfl rfl (Nat.le_of_ble_eq_true rfl) (by decide) (by decide) rfl dX5_memberAt_2 ?_
  refine aw_astore_n (L2 := [some (.ref (ad 0 0 0)), some (.ref (ad 1 0 l)), some (.int (nI s)), some (.ref (ad 3 0 s))]) (by decide) rfl rfl dX5_memberAt_5 ?_
  refine aw_aload_n (x := ad 3 0 s) rfl dX5_memberAt_6 ?_
  refine aw_ifnull dX5_memberAt_7 ?_
  refine aw_aload_n (x := ad 3 0 s) rfl dX5_memberAt_10 ?_
  refine aw_geti (q := (0, 101 + 8 * s + 1)) (x := o.1 0 (101 + 8 * s + 1)) (wv3 (by decide) (by omega)) rfl rfl flX5_48 rfl (Or.inl rfl) dX5_memberAt_11 ?_
  refine aw_aload_n (x := ad 1 0 l) rfl dX5_memberAt_14 ?_
  refine aw_num (Or.inl rfl) (wv1 (by decide) hl) flX5_51 rfl rfl dX5_memberAt_15 ?_
  refine aw_icmp_ne (tgt := 25) (by decide) dX5_memberAt_18 (fun _ => ?_) (fun z => absurd z hm)
  refine aw_null dX5_memberAt_25 ?_
  exact aw_aret rfl (Or.inl rfl) (by decide) (by decide) dX5_memberAt_26 ⟨by first | rfl | (simp [wd_w_row, row_self, row_row]; done) | (simp_all [wd_w_row, row_self, row_row]; done), by first | rfl | (simp [wd_w_row, row_self, row_row]; done) | (simp_all [wd_w_row, row_self, row_row]; done)⟩
theorem ct_X5_memberAt_none {ad : Nat → Nat → Nat → Nat} {o : wd_S} {n m l s : Nat} (G : cg (o.1 0) n m) (hl : l < 5) (hs : s < 16) (hm : ¬ mem (o.1 0) m l s) : CT ad MX5_memberAt [.ref (ad 0 0 0), .ref (ad 1 0 l), .int (nI s)] o (RT (some .null) o) := by
  by_cases h : s < m
  · exact ct_X5_memberAt_n2 G hl h (fun e => hm ⟨h, e⟩)
  · exact ct_X5_memberAt_n1 G hl (by omega) hs
def cs_has (B : Nat → Int32) (m l : Nat) (code ex : Int32) (i : Nat) : Bool := decide (mem B m l i) && (decide (B (101 + 8 * i + 3) = code) && decide (nI i ≠ ex))
theorem lp_X5_hasCode {ad : Nat → Nat → Nat → Nat} {o : wd_S} {n m l : Nat} (G : cg (o.1 0) n m) (hl : l < 5) {c x : Int32} : ∀ (k i : Nat) , i + k = 16 → AW ad MX5_hasCode 3 [some (.ref (ad 0 0 0)), some (.ref (ad 1 0 l)), some (.int c), some (.int x), some (.int (nI i)), none] [] o 0 0 (RT (some (.int (if anyF (cs_has (o.1 0) m l c x) (k) (i) = true then 1 else 0))) o) := by
  obtain ⟨g1, g2, g3, g4, g5, g6⟩ := id G
  intro k
  induction k with
  | zero =>
    intro i hk
    have hi : i = 16 := by omega
    subst hi
    refine aw_iload (x := (nI 16)) rfl dX5_hasCode_3 ?_
    refine aw_bipush (v := 16) (by decide) dX5_hasCode_5 ?_
    refine aw_icmp_ge (tgt := 47) (by decide) dX5_hasCode_7 (fun _ => ?_) (fun z => absurd (by decide) z)
    refine aw_iconst (v := 0) (by decide) dX5_hasCode_47 ?_
    exact aw_zret rfl (by decide) (by decide) (by decide) dX5_hasCode_48 ⟨by first | rfl | (simp [anyF, cs_has, mem]; done) | (simp_all [anyF, cs_has, mem]; done), by first | rfl | (simp [anyF, cs_has, mem]; done) | (simp_all [anyF, cs_has, mem]; done)⟩
  | succ k ih =>
    intro i hk
    have hi : i < 16 := by omega
    refine aw_iload (x := (nI i)) rfl dX5_hasCode_3 ?_
    refine aw_bipush (v := 16) (by decide) dX5_hasCode_5 ?_
    refine aw_icmp_ge (tgt := 47) (by decide) dX5_hasCode_7 (fun z => absurd z (nI_ge (b := 16) hi (by decide))) (fun _ => ?_)
    refine aw_aload_n (x := ad 0 0 0) rfl dX5_hasCode_10 ?_
    refine aw_aload_n (x := ad 1 0 l) rfl dX5_hasCode_11 ?_
    refine aw_iload (x := (nI i)) rfl dX5_hasCode_12 ?_
    by_cases q1 : mem (o.1 0) m l i
    · skip
      refine aw_rV (v := some (.ref (ad 3 0 i))) (o2 := o) (ct_X5_memberAt_some G hl q1) (mm_fit_of cbX5_memberAt (by decide) (by decide)) wq275 cvX5_memberAt (wv0 (by decide)) rfl rfl rfl (Nat.le_of_ble_eq_true rfl) (by decide) (by decide) rfl dX5_hasCode_14 ?_
      refine aw_astore (L2 := [some (.ref (ad 0 0 0)), some (.ref (ad 1 0 l)), some (.int c), some (.int x), some (.int (nI i)), some (.ref (ad 3 0 i))]) (by decide) rfl rfl dX5_hasCode_17 ?_
      refine aw_aload (x := ad 3 0 i) rfl dX5_hasCode_19 ?_
      refine aw_ifnull dX5_hasCode_21 ?_
      refine aw_aload (x := ad 3 0 i) rfl dX5_hasCode_24 ?_
      refine aw_geti (q := (0, 101 + 8 * i + 3)) (x := o.1 0 (101 + 8 * i + 3)) (wv3 (by decide) (by omega)) rfl rfl flX5_65 rfl (Or.inl rfl) dX5_hasCode_26 ?_
      refine aw_iload_n (x := c) rfl dX5_hasCode_29 ?_
      refine aw_icmp_ne (tgt := 41) (by decide) dX5_hasCode_30 (fun b2 => ?_) (fun b2 => ?_)
      · skip
        refine aw_iinc (n := 1) (x := (nI i)) (v := nI (i + 1)) (L2 := [some (.ref (ad 0 0 0)), some (.ref (ad 1 0 l)), some (.int c), some (.int x), some (.int (nI (i + 1))), some (.ref (ad 3 0 i))]) rfl (nI_1 i) (by decide) rfl rfl dX5_hasCode_41 ?_
        refine aw_goto (tgt := 3) (by decide) dX5_hasCode_44 ?_
        have e9 : (RT (some (.int (if anyF (cs_has (o.1 0) m l c x) (k + 1) (i) = true then 1 else 0))) o) = (RT (some (.int (if anyF (cs_has (o.1 0) m l c x) (k) (i + 1) = true then 1 else 0))) o) := by first | (simp [anyF, cs_has, mem, q1, b2]; done) | (simp_all [anyF, cs_has, mem, q1, b2]; done)
        rw [e9]
        exact AW.locs (ih (i + 1)  (by omega) ) (lsub_keep (lsub_keep (lsub_keep (lsub_keep (lsub_keep (lsub_none lsub_nil))))))
      · skip
        refine aw_iload (x := (nI i)) rfl dX5_hasCode_33 ?_
        refine aw_iload_n (x := x) rfl dX5_hasCode_35 ?_
        refine aw_icmp_eq (tgt := 41) (by decide) dX5_hasCode_36 (fun b3 => ?_) (fun b3 => ?_)
        · skip
          refine aw_iinc (n := 1) (x := (nI i)) (v := nI (i + 1)) (L2 := [some (.ref (ad 0 0 0)), some (.ref (ad 1 0 l)), some (.int c), some (.int x), some (.int (nI (i + 1))), some (.ref (ad 3 0 i))]) rfl (nI_1 i) (by decide) rfl rfl dX5_hasCode_41 ?_
          refine aw_goto (tgt := 3) (by decide) dX5_hasCode_44 ?_
          have e9 : (RT (some (.int (if anyF (cs_has (o.1 0) m l c x) (k + 1) (i) = true then 1 else 0))) o) = (RT (some (.int (if anyF (cs_has (o.1 0) m l c x) (k) (i + 1) = true then 1 else 0))) o) := by first | (simp [anyF, cs_has, mem, q1, b2, b3]; done) | (simp_all [anyF, cs_has, mem, q1, b2, b3]; done)
          rw [e9]
          exact AW.locs (ih (i + 1)  (by omega) ) (lsub_keep (lsub_keep (lsub_keep (lsub_keep (lsub_keep (lsub_none lsub_nil))))))
        · skip
          refine aw_iconst (v := 1) (by decide) dX5_hasCode_39 ?_
          exact aw_zret rfl (by decide) (by decide) (by decide) dX5_hasCode_40 ⟨by first | rfl | (simp [anyF, cs_has, mem, q1, b2, b3]; done) | (simp_all [anyF, cs_has, mem, q1, b2, b3]; done), by first | rfl | (simp [anyF, cs_has, mem, q1, b2, b3]; done) | (simp_all [anyF, cs_has, mem, q1, b2, b3]; done)⟩
    · skip
      refine aw_rV (v := some .null) (o2 := o) (ct_X5_memberAt_none G hl (by omega) q1) (mm_fit_of cbX5_memberAt (by decide) (by decide)) wq275 cvX5_memberAt (wv0 (by decide)) rfl rfl rfl (Nat.le_of_ble_eq_true rfl) (by decide) (by decide) rfl dX5_hasCode_14 ?_
      refine aw_astoreN (L2 := [some (.ref (ad 0 0 0)), some (.ref (ad 1 0 l)), some (.int c), some (.int x), some (.int (nI i)), some (.null)]) (by decide) rfl rfl dX5_hasCode_17 ?_
      refine aw_aloadN rfl dX5_hasCode_19 ?_
      refine aw_ifnullN (tgt := 41) (by decide) dX5_hasCode_21 ?_
      refine aw_iinc (n := 1) (x := (nI i)) (v := nI (i + 1)) (L2 := [some (.ref (ad 0 0 0)), some (.ref (ad 1 0 l)), some (.int c), some (.int x), some (.int (nI (i + 1))), some (.null)]) rfl (nI_1 i) (by decide) rfl rfl dX5_hasCode_41 ?_
      refine aw_goto (tgt := 3) (by decide) dX5_hasCode_44 ?_
      have e9 : (RT (some (.int (if anyF (cs_has (o.1 0) m l c x) (k + 1) (i) = true then 1 else 0))) o) = (RT (some (.int (if anyF (cs_has (o.1 0) m l c x) (k) (i + 1) = true then 1 else 0))) o) := by first | (simp [anyF, cs_has, mem, q1]; done) | (simp_all [anyF, cs_has, mem, q1]; done)
      rw [e9]
      exact AW.locs (ih (i + 1)  (by omega) ) (lsub_keep (lsub_keep (lsub_keep (lsub_keep (lsub_keep (lsub_none lsub_nil))))))
theorem ct_X5_hasCode {ad : Nat → Nat → Nat → Nat} {o : wd_S} {n m l : Nat} (G : cg (o.1 0) n m) (hl : l < 5) {c x : Int32} : CT ad MX5_hasCode [.ref (ad 0 0 0), .ref (ad 1 0 l), .int c, .int x] o (RT (some (.int (if anyF (cs_has (o.1 0) m l c x) 16 0 = true then 1 else 0))) o) := by
  refine CT.of (L := [some (.ref (ad 0 0 0)), some (.ref (ad 1 0 l)), some (.int c), some (.int x), none, none]) rfl rfl (by decide) (Nat.le_of_ble_eq_true rfl) rfl ?_
  refine aw_iconst (v := 0) (by decide) dX5_hasCode_0 ?_
  refine aw_istore (L2 := [some (.ref (ad 0 0 0)), some (.ref (ad 1 0 l)), some (.int c), some (.int x), some (.int 0), none]) (by decide) rfl rfl dX5_hasCode_1 ?_
  exact AW.post (AW.locs (lp_X5_hasCode G hl 16 0 (by decide)) (lsub_keep (lsub_keep (lsub_keep (lsub_keep (lsub_keep (lsub_keep lsub_nil))))))) (fun r o2 q => by simpa [] using q)
theorem sumF_acc (a b c : Int32) : a + (b + c) = a + b + c := (Int32.add_assoc a b c).symm
def cs_mem (B : Nat → Int32) (m l i : Nat) : Int32 := if mem B m l i then 1 else 0
theorem lp_X5_countMembers {ad : Nat → Nat → Nat → Nat} {o : wd_S} {n m l : Nat} (G : cg (o.1 0) n m) (hl : l < 5) : ∀ (k i : Nat) (a : Int32), i + k = 16 → AW ad MX5_countMembers 4 [some (.ref (ad 0 0 0)), some (.ref (ad 1 0 l)), some (.int a), some (.int (nI i))] [] o 0 0 (RT (some (.int (a + sumF (cs_mem (o.1 0) m l) (k) (i)))) o) := by
  obtain ⟨g1, g2, g3, g4, g5, g6⟩ := id G
  intro k
  induction k with
  | zero =>
    intro i a hk
    have hi : i = 16 := by omega
    subst hi
    refine aw_iload_n (x := (nI 16)) rfl dX5_countMembers_4 ?_
    refine aw_bipush (v := 16) (by decide) dX5_countMembers_5 ?_
    refine aw_icmp_ge (tgt := 28) (by decide) dX5_countMembers_7 (fun _ => ?_) (fun z => absurd (by decide) z)
    refine aw_iload_n (x := a) rfl dX5_countMembers_28 ?_
    exact aw_iret rfl (by decide) (by decide) dX5_countMembers_29 ⟨by first | rfl | (simp [sumF, cs_mem, mem]; done) | (simp_all [sumF, cs_mem, mem]; done), by first | rfl | (simp [sumF, cs_mem, mem]; done) | (simp_all [sumF, cs_mem, mem]; done)⟩
  | succ k ih =>
    intro i a hk
    have hi : i < 16 := by omega
    refine aw_iload_n (x := (nI i)) rfl dX5_countMembers_4 ?_
    refine aw_bipush (v := 16) (by decide) dX5_countMembers_5 ?_
    refine aw_icmp_ge (tgt := 28) (by decide) dX5_countMembers_7 (fun z => absurd z (nI_ge (b := 16) hi (by decide))) (fun _ => ?_)
    refine aw_aload_n (x := ad 0 0 0) rfl dX5_countMembers_10 ?_
    refine aw_aload_n (x := ad 1 0 l) rfl dX5_countMembers_11 ?_
    refine aw_iload_n (x := (nI i)) rfl dX5_countMembers_12 ?_
    by_cases q1 : mem (o.1 0) m l i
    · skip
      refine aw_rV (v := some (.ref (ad 3 0 i))) (o2 := o) (ct_X5_memberAt_some G hl q1) (mm_fit_of cbX5_memberAt (by decide) (by decide)) wq275 cvX5_memberAt (wv0 (by decide)) rfl rfl rfl (Nat.le_of_ble_eq_true rfl) (by decide) (by decide) rfl dX5_countMembers_13 ?_
      refine aw_ifnull dX5_countMembers_16 ?_
      refine aw_iinc (n := 1) (x := a) (v := a + 1) (L2 := [some (.ref (ad 0 0 0)), some (.ref (ad 1 0 l)), some (.int (a + 1)), some (.int (nI i))]) rfl rfl (by decide) rfl rfl dX5_countMembers_19 ?_
      refine aw_iinc (n := 1) (x := (nI i)) (v := nI (i + 1)) (L2 := [some (.ref (ad 0 0 0)), some (.ref (ad 1 0 l)), some (.int (a + 1)), some (.int (nI (i + 1)))]) rfl (nI_1 i) (by decide) rfl rfl dX5_countMembers_22 ?_
      refine aw_goto (tgt := 4) (by decide) dX5_countMembers_25 ?_
      have e9 : (RT (some (.int (a + sumF (cs_mem (o.1 0) m l) (k + 1) (i)))) o) = (RT (some (.int ((a + 1) + sumF (cs_mem (o.1 0) m l) (k) (i + 1)))) o) := by first | (simp [sumF, cs_mem, sumF_acc, mem, q1]; done) | (simp_all [sumF, cs_mem, sumF_acc, mem, q1]; done)
      rw [e9]
      exact AW.locs (ih (i + 1) (a + 1) (by omega) ) (lsub_keep (lsub_keep (lsub_keep (lsub_keep lsub_nil))))
    · skip
      refine aw_rV (v := some .null) (o2 := o) (ct_X5_memberAt_none G hl (by omega) q1) (mm_fit_of cbX5_memberAt (by decide) (by decide)) wq275 cvX5_memberAt (wv0 (by decide)) rfl rfl rfl (Nat.le_of_ble_eq_true rfl) (by decide) (by decide) rfl dX5_countMembers_13 ?_
      refine aw_ifnullN (tgt := 22) (by decide) dX5_countMembers_16 ?_
      refine aw_iinc (n := 1) (x := (nI i)) (v := nI (i + 1)) (L2 := [some (.ref (ad 0 0 0)), some (.ref (ad 1 0 l)), some (.int a), some (.int (nI (i + 1)))]) rfl (nI_1 i) (by decide) rfl rfl dX5_countMembers_22 ?_
      refine aw_goto (tgt := 4) (by decide) dX5_countMembers_25 ?_
      have e9 : (RT (some (.int (a + sumF (cs_mem (o.1 0) m l) (k + 1) (i)))) o) = (RT (some (.int (a + sumF (cs_mem (o.1 0) m l) (k) (i + 1)))) o) := by first | (simp [sumF, cs_mem, sumF_acc, mem, q1]; done) | (simp_all [sumF, cs_mem, sumF_acc, mem, q1]; done)
      rw [e9]
      exact AW.locs (ih (i + 1) a (by omega) ) (lsub_keep (lsub_keep (lsub_keep (lsub_keep lsub_nil))))
theorem ct_X5_countMembers {ad : Nat → Nat → Nat → Nat} {o : wd_S} {n m l : Nat} (G : cg (o.1 0) n m) (hl : l < 5) : CT ad MX5_countMembers [.ref (ad 0 0 0), .ref (ad 1 0 l)] o (RT (some (.int (sumF (cs_mem (o.1 0) m l) 16 0))) o) := by
  refine CT.of (L := [some (.ref (ad 0 0 0)), some (.ref (ad 1 0 l)), none, none]) rfl rfl (by decide) (Nat.le_of_ble_eq_true rfl) rfl ?_
  refine aw_iconst (v := 0) (by decide) dX5_countMembers_0 ?_
  refine aw_istore_n (L2 := [some (.ref (ad 0 0 0)), some (.ref (ad 1 0 l)), some (.int 0), none]) (by decide) rfl rfl dX5_countMembers_1 ?_
  refine aw_iconst (v := 0) (by decide) dX5_countMembers_2 ?_
  refine aw_istore_n (L2 := [some (.ref (ad 0 0 0)), some (.ref (ad 1 0 l)), some (.int 0), some (.int 0)]) (by decide) rfl rfl dX5_countMembers_3 ?_
  exact AW.post (AW.locs (lp_X5_countMembers G hl 16 0 0 (by decide)) (lsub_keep (lsub_keep (lsub_keep (lsub_keep lsub_nil))))) (fun r o2 q => by simpa [] using q)
def cs_cut1 (B : Nat → Int32) (m l i : Nat) : Int32 := if mem B m l i ∧ cs_cuts B l i ≠ 0 then 1 else 0
theorem lp_X5_countCutOff {ad : Nat → Nat → Nat → Nat} {o : wd_S} {n m l : Nat} (G : cg (o.1 0) n m) (hl : l < 5) : ∀ (k i : Nat) (a : Int32), i + k = 16 → AW ad MX5_countCutOff 4 [some (.ref (ad 0 0 0)), some (.ref (ad 1 0 l)), some (.int a), some (.int (nI i)), none] [] o 0 0 (RT (some (.int (a + sumF (cs_cut1 (o.1 0) m l) (k) (i)))) o) := by
  obtain ⟨g1, g2, g3, g4, g5, g6⟩ := id G
  intro k
  induction k with
  | zero =>
    intro i a hk
    have hi : i = 16 := by omega
    subst hi
    refine aw_iload_n (x := (nI 16)) rfl dX5_countCutOff_4 ?_
    refine aw_bipush (v := 16) (by decide) dX5_countCutOff_5 ?_
    refine aw_icmp_ge (tgt := 41) (by decide) dX5_countCutOff_7 (fun _ => ?_) (fun z => absurd (by decide) z)
    refine aw_iload_n (x := a) rfl dX5_countCutOff_41 ?_
    exact aw_iret rfl (by decide) (by decide) dX5_countCutOff_42 ⟨by first | rfl | (simp [sumF, cs_cut1, mem]; done) | (simp_all [sumF, cs_cut1, mem]; done), by first | rfl | (simp [sumF, cs_cut1, mem]; done) | (simp_all [sumF, cs_cut1, mem]; done)⟩
  | succ k ih =>
    intro i a hk
    have hi : i < 16 := by omega
    refine aw_iload_n (x := (nI i)) rfl dX5_countCutOff_4 ?_
    refine aw_bipush (v := 16) (by decide) dX5_countCutOff_5 ?_
    refine aw_icmp_ge (tgt := 41) (by decide) dX5_countCutOff_7 (fun z => absurd z (nI_ge (b := 16) hi (by decide))) (fun _ => ?_)
    refine aw_aload_n (x := ad 0 0 0) rfl dX5_countCutOff_10 ?_
    refine aw_aload_n (x := ad 1 0 l) rfl dX5_countCutOff_11 ?_
    refine aw_iload_n (x := (nI i)) rfl dX5_countCutOff_12 ?_
    by_cases q1 : mem (o.1 0) m l i
    · skip
      refine aw_rV (v := some (.ref (ad 3 0 i))) (o2 := o) (ct_X5_memberAt_some G hl q1) (mm_fit_of cbX5_memberAt (by decide) (by decide)) wq275 cvX5_memberAt (wv0 (by decide)) rfl rfl rfl (Nat.le_of_ble_eq_true rfl) (by decide) (by decide) rfl dX5_countCutOff_13 ?_
      refine aw_astore (L2 := [some (.ref (ad 0 0 0)), some (.ref (ad 1 0 l)), some (.int a), some (.int (nI i)), some (.ref (ad 3 0 i))]) (by decide) rfl rfl dX5_countCutOff_16 ?_
      refine aw_aload (x := ad 3 0 i) rfl dX5_countCutOff_18 ?_
      refine aw_ifnull dX5_countCutOff_20 ?_
      refine aw_aload_n (x := ad 1 0 l) rfl dX5_countCutOff_23 ?_
      refine aw_aload (x := ad 3 0 i) rfl dX5_countCutOff_24 ?_
      refine aw_rV (v := some (.int (cs_cuts (o.1 0) l i))) (o2 := o) (ct_X3_cutsOff (by decide) hl (by omega)) (mm_fit_of cbX3_cutsOff (by decide) (by decide)) wq335 cvX3_cutsOff (wv1 (by decide) hl) rfl rfl rfl (Nat.le_of_ble_eq_true rfl) (by decide) (by decide) rfl dX5_countCutOff_26 ?_
      refine aw_if_eq (tgt := 35) (by decide) dX5_countCutOff_29 (fun b2 => ?_) (fun b2 => ?_)
      · skip
        refine aw_iinc (n := 1) (x := (nI i)) (v := nI (i + 1)) (L2 := [some (.ref (ad 0 0 0)), some (.ref (ad 1 0 l)), some (.int a), some (.int (nI (i + 1))), some (.ref (ad 3 0 i))]) rfl (nI_1 i) (by decide) rfl rfl dX5_countCutOff_35 ?_
        refine aw_goto (tgt := 4) (by decide) dX5_countCutOff_38 ?_
        have e9 : (RT (some (.int (a + sumF (cs_cut1 (o.1 0) m l) (k + 1) (i)))) o) = (RT (some (.int (a + sumF (cs_cut1 (o.1 0) m l) (k) (i + 1)))) o) := by first | (simp [sumF, cs_cut1, sumF_acc, mem, q1, b2]; done) | (simp_all [sumF, cs_cut1, sumF_acc, mem, q1, b2]; done)
        rw [e9]
        exact AW.locs (ih (i + 1) a (by omega) ) (lsub_keep (lsub_keep (lsub_keep (lsub_keep (lsub_none lsub_nil)))))
      · skip
        refine aw_iinc (n := 1) (x := a) (v := a + 1) (L2 := [some (.ref (ad 0 0 0)), some (.ref (ad 1 0 l)), some (.int (a + 1)), some (.int (nI i)), some (.ref (ad 3 0 i))]) rfl rfl (by decide) rfl rfl dX5_countCutOff_32 ?_
        refine aw_iinc (n := 1) (x := (nI i)) (v := nI (i + 1)) (L2 := [some (.ref (ad 0 0 0)), some (.ref (ad 1 0 l)), some (.int (a + 1)), some (.int (nI (i + 1))), some (.ref (ad 3 0 i))]) rfl (nI_1 i) (by decide) rfl rfl dX5_countCutOff_35 ?_
        refine aw_goto (tgt := 4) (by decide) dX5_countCutOff_38 ?_
        have e9 : (RT (some (.int (a + sumF (cs_cut1 (o.1 0) m l) (k + 1) (i)))) o) = (RT (some (.int ((a + 1) + sumF (cs_cut1 (o.1 0) m l) (k) (i + 1)))) o) := by first | (simp [sumF, cs_cut1, sumF_acc, mem, q1, b2]; done) | (simp_all [sumF, cs_cut1, sumF_acc, mem, q1, b2]; done)
        rw [e9]
        exact AW.locs (ih (i + 1) (a + 1) (by omega) ) (lsub_keep (lsub_keep (lsub_keep (lsub_keep (lsub_none lsub_nil)))))
    · skip
      refine aw_rV (v := some .null) (o2 := o) (ct_X5_memberAt_none G hl (by omega) q1) (mm_fit_of cbX5_memberAt (by decide) (by decide)) wq275 cvX5_memberAt (wv0 (by decide)) rfl rfl rfl (Nat.le_of_ble_eq_true rfl) (by decide) (by decide) rfl dX5_countCutOff_13 ?_
      refine aw_astoreN (L2 := [some (.ref (ad 0 0 0)), some (.ref (ad 1 0 l)), some (.int a), some (.int (nI i)), some (.null)]) (by decide) rfl rfl dX5_countCutOff_16 ?_
      refine aw_aloadN rfl dX5_countCutOff_18 ?_
      refine aw_ifnullN (tgt := 35) (by decide) dX5_countCutOff_20 ?_
      refine aw_iinc (n := 1) (x := (nI i)) (v := nI (i + 1)) (L2 := [some (.ref (ad 0 0 0)), some (.ref (ad 1 0 l)), some (.int a), some (.int (nI (i + 1))), some (.null)]) rfl (nI_1 i) (by decide) rfl rfl dX5_countCutOff_35 ?_
      refine aw_goto (tgt := 4) (by decide) dX5_countCutOff_38 ?_
      have e9 : (RT (some (.int (a + sumF (cs_cut1 (o.1 0) m l) (k + 1) (i)))) o) = (RT (some (.int (a + sumF (cs_cut1 (o.1 0) m l) (k) (i + 1)))) o) := by first | (simp [sumF, cs_cut1, sumF_acc, mem, q1]; done) | (simp_all [sumF, cs_cut1, sumF_acc, mem, q1]; done)
      rw [e9]
      exact AW.locs (ih (i + 1) a (by omega) ) (lsub_keep (lsub_keep (lsub_keep (lsub_keep (lsub_none lsub_nil)))))
theorem ct_X5_countCutOff {ad : Nat → Nat → Nat → Nat} {o : wd_S} {n m l : Nat} (G : cg (o.1 0) n m) (hl : l < 5) : CT ad MX5_countCutOff [.ref (ad 0 0 0), .ref (ad 1 0 l)] o (RT (some (.int (sumF (cs_cut1 (o.1 0) m l) 16 0))) o) := by
  refine CT.of (L := [some (.ref (ad 0 0 0)), some (.ref (ad 1 0 l)), none, none, none]) rfl rfl (by decide) (Nat.le_of_ble_eq_true rfl) rfl ?_
  refine aw_iconst (v := 0) (by decide) dX5_countCutOff_0 ?_
  refine aw_istore_n (L2 := [some (.ref (ad 0 0 0)), some (.ref (ad 1 0 l)), some (.int 0), none, none]) (by decide) rfl rfl dX5_countCutOff_1 ?_
  refine aw_iconst (v := 0) (by decide) dX5_countCutOff_2 ?_
  refine aw_istore_n (L2 := [some (.ref (ad 0 0 0)), some (.ref (ad 1 0 l)), some (.int 0), some (.int 0), none]) (by decide) rfl rfl dX5_countCutOff_3 ?_
  exact AW.post (AW.locs (lp_X5_countCutOff G hl 16 0 0 (by decide)) (lsub_keep (lsub_keep (lsub_keep (lsub_keep (lsub_keep lsub_nil)))))) (fun r o2 q => by simpa [] using q)
def cs_cost (B : Nat → Int32) (m l i : Nat) : Int32 := if mem B m l i then B (101 + 8 * i + 5) * tc_len (B (101 + 8 * i + 3)) else 0
theorem lp_X5_costOfCodes {ad : Nat → Nat → Nat → Nat} {o : wd_S} {n m l : Nat} (G : cg (o.1 0) n m) (hl : l < 5) : ∀ (k i : Nat) (a : Int32), i + k = 16 → AW ad MX5_costOfCodes 4 [some (.ref (ad 0 0 0)), some (.ref (ad 1 0 l)), some (.int a), some (.int (nI i)), none] [] o 0 0 (RT (some (.int (a + sumF (cs_cost (o.1 0) m l) (k) (i)))) o) := by
  obtain ⟨g1, g2, g3, g4, g5, g6⟩ := id G
  intro k
  induction k with
  | zero =>
    intro i a hk
    have hi : i = 16 := by omega
    subst hi
    refine aw_iload_n (x := (nI 16)) rfl dX5_costOfCodes_4 ?_
    refine aw_bipush (v := 16) (by decide) dX5_costOfCodes_5 ?_
    refine aw_icmp_ge (tgt := 46) (by decide) dX5_costOfCodes_7 (fun _ => ?_) (fun z => absurd (by decide) z)
    refine aw_iload_n (x := a) rfl dX5_costOfCodes_46 ?_
    exact aw_iret rfl (by decide) (by decide) dX5_costOfCodes_47 ⟨by first | rfl | (simp [sumF, cs_cost, mem]; done) | (simp_all [sumF, cs_cost, mem]; done), by first | rfl | (simp [sumF, cs_cost, mem]; done) | (simp_all [sumF, cs_cost, mem]; done)⟩
  | succ k ih =>
    intro i a hk
    have hi : i < 16 := by omega
    refine aw_iload_n (x := (nI i)) rfl dX5_costOfCodes_4 ?_
    refine aw_bipush (v := 16) (by decide) dX5_costOfCodes_5 ?_
    refine aw_icmp_ge (tgt := 46) (by decide) dX5_costOfCodes_7 (fun z => absurd z (nI_ge (b := 16) hi (by decide))) (fun _ => ?_)
    refine aw_aload_n (x := ad 0 0 0) rfl dX5_costOfCodes_10 ?_
    refine aw_aload_n (x := ad 1 0 l) rfl dX5_costOfCodes_11 ?_
    refine aw_iload_n (x := (nI i)) rfl dX5_costOfCodes_12 ?_
    by_cases q1 : mem (o.1 0) m l i
    · skip
      refine aw_rV (v := some (.ref (ad 3 0 i))) (o2 := o) (ct_X5_memberAt_some G hl q1) (mm_fit_of cbX5_memberAt (by decide) (by decide)) wq275 cvX5_memberAt (wv0 (by decide)) rfl rfl rfl (Nat.le_of_ble_eq_true rfl) (by decide) (by decide) rfl dX5_costOfCodes_13 ?_
      refine aw_astore (L2 := [some (.ref (ad 0 0 0)), some (.ref (ad 1 0 l)), some (.int a), some (.int (nI i)), some (.ref (ad 3 0 i))]) (by decide) rfl rfl dX5_costOfCodes_16 ?_
      refine aw_aload (x := ad 3 0 i) rfl dX5_costOfCodes_18 ?_
      refine aw_ifnull dX5_costOfCodes_20 ?_
      refine aw_iload_n (x := a) rfl dX5_costOfCodes_23 ?_
      refine aw_aload (x := ad 3 0 i) rfl dX5_costOfCodes_24 ?_
      refine aw_geti (q := (0, 101 + 8 * i + 5)) (x := o.1 0 (101 + 8 * i + 5)) (wv3 (by decide) (by omega)) rfl rfl flX5_95 rfl (Or.inl rfl) dX5_costOfCodes_26 ?_
      refine aw_aload (x := ad 3 0 i) rfl dX5_costOfCodes_29 ?_
      refine aw_geti (q := (0, 101 + 8 * i + 3)) (x := o.1 0 (101 + 8 * i + 3)) (wv3 (by decide) (by omega)) rfl rfl flX5_65 rfl (Or.inl rfl) dX5_costOfCodes_31 ?_
      refine aw_rS (v := some (.int (tc_len (o.1 0 (101 + 8 * i + 3))))) (o2 := o) (ct_X0_lengthOf (g6 _ (by omega)).1 (g6 _ (by omega)).2) (mm_fit_of cbX0_lengthOf (by decide) (by decide)) wq316 wq301 rfl rfl (Nat.le_of_ble_eq_true rfl) (by decide) (by decide) rfl dX5_costOfCodes_34 ?_
      refine aw_imulz (z := (o.1 0 (101 + 8 * i + 5)) * (tc_len (o.1 0 (101 + 8 * i + 3)))) rfl dX5_costOfCodes_37 ?_
      refine aw_iaddz (z := a + ((o.1 0 (101 + 8 * i + 5)) * (tc_len (o.1 0 (101 + 8 * i + 3))))) rfl dX5_costOfCodes_38 ?_
      refine aw_istore_n (L2 := [some (.ref (ad 0 0 0)), some (.ref (ad 1 0 l)), some (.int (a + ((o.1 0 (101 + 8 * i + 5)) * (tc_len (o.1 0 (101 + 8 * i + 3)))))), some (.int (nI i)), some (.ref (ad 3 0 i))]) (by decide) rfl rfl dX5_costOfCodes_39 ?_
      refine aw_iinc (n := 1) (x := (nI i)) (v := nI (i + 1)) (L2 := [some (.ref (ad 0 0 0)), some (.ref (ad 1 0 l)), some (.int (a + ((o.1 0 (101 + 8 * i + 5)) * (tc_len (o.1 0 (101 + 8 * i + 3)))))), some (.int (nI (i + 1))), some (.ref (ad 3 0 i))]) rfl (nI_1 i) (by decide) rfl rfl dX5_costOfCodes_40 ?_
      refine aw_goto (tgt := 4) (by decide) dX5_costOfCodes_43 ?_
      have e9 : (RT (some (.int (a + sumF (cs_cost (o.1 0) m l) (k + 1) (i)))) o) = (RT (some (.int ((a + ((o.1 0 (101 + 8 * i + 5)) * (tc_len (o.1 0 (101 + 8 * i + 3))))) + sumF (cs_cost (o.1 0) m l) (k) (i + 1)))) o) := by first | (simp [sumF, cs_cost, sumF_acc, mem, q1]; done) | (simp_all [sumF, cs_cost, sumF_acc, mem, q1]; done)
      rw [e9]
      exact AW.locs (ih (i + 1) (a + ((o.1 0 (101 + 8 * i + 5)) * (tc_len (o.1 0 (101 + 8 * i + 3))))) (by omega) ) (lsub_keep (lsub_keep (lsub_keep (lsub_keep (lsub_none lsub_nil)))))
    · skip
      refine aw_rV (v := some .null) (o2 := o) (ct_X5_memberAt_none G hl (by omega) q1) (mm_fit_of cbX5_memberAt (by decide) (by decide)) wq275 cvX5_memberAt (wv0 (by decide)) rfl rfl rfl (Nat.le_of_ble_eq_true rfl) (by decide) (by decide) rfl dX5_costOfCodes_13 ?_
      refine aw_astoreN (L2 := [some (.ref (ad 0 0 0)), some (.ref (ad 1 0 l)), some (.int a), some (.int (nI i)), some (.null)]) (by decide) rfl rfl dX5_costOfCodes_16 ?_
      refine aw_aloadN rfl dX5_costOfCodes_18 ?_
      refine aw_ifnullN (tgt := 40) (by decide) dX5_costOfCodes_20 ?_
      refine aw_iinc (n := 1) (x := (nI i)) (v := nI (i + 1)) (L2 := [some (.ref (ad 0 0 0)), some (.ref (ad 1 0 l)), some (.int a), some (.int (nI (i + 1))), some (.null)]) rfl (nI_1 i) (by decide) rfl rfl dX5_costOfCodes_40 ?_
      refine aw_goto (tgt := 4) (by decide) dX5_costOfCodes_43 ?_
      have e9 : (RT (some (.int (a + sumF (cs_cost (o.1 0) m l) (k + 1) (i)))) o) = (RT (some (.int (a + sumF (cs_cost (o.1 0) m l) (k) (i + 1)))) o) := by first | (simp [sumF, cs_cost, sumF_acc, mem, q1]; done) | (simp_all [sumF, cs_cost, sumF_acc, mem, q1]; done)
      rw [e9]
      exact AW.locs (ih (i + 1) a (by omega) ) (lsub_keep (lsub_keep (lsub_keep (lsub_keep (lsub_none lsub_nil)))))
theorem ct_X5_costOfCodes {ad : Nat → Nat → Nat → Nat} {o : wd_S} {n m l : Nat} (G : cg (o.1 0) n m) (hl : l < 5) : CT ad MX5_costOfCodes [.ref (ad 0 0 0), .ref (ad 1 0 l)] o (RT (some (.int (sumF (cs_cost (o.1 0) m l) 16 0))) o) := by
  refine CT.of (L := [some (.ref (ad 0 0 0)), some (.ref (ad 1 0 l)), none, none, none]) rfl rfl (by decide) (Nat.le_of_ble_eq_true rfl) rfl ?_
  refine aw_iconst (v := 0) (by decide) dX5_costOfCodes_0 ?_
  refine aw_istore_n (L2 := [some (.ref (ad 0 0 0)), some (.ref (ad 1 0 l)), some (.int 0), none, none]) (by decide) rfl rfl dX5_costOfCodes_1 ?_
  refine aw_iconst (v := 0) (by decide) dX5_costOfCodes_2 ?_
  refine aw_istore_n (L2 := [some (.ref (ad 0 0 0)), some (.ref (ad 1 0 l)), some (.int 0), some (.int 0), none]) (by decide) rfl rfl dX5_costOfCodes_3 ?_
  exact AW.post (AW.locs (lp_X5_costOfCodes G hl 16 0 0 (by decide)) (lsub_keep (lsub_keep (lsub_keep (lsub_keep (lsub_keep lsub_nil)))))) (fun r o2 q => by simpa [] using q)
def cs_use (B : Nat → Int32) (n i : Nat) : Int32 := if i < n ∧ B (20 * i + 1) ≠ 0 then 1 else 0
theorem lp_X5_loopsInUse {ad : Nat → Nat → Nat → Nat} {o : wd_S} {n m : Nat} (G : cg (o.1 0) n m) : ∀ (k i : Nat) (a : Int32), i + k = 5 → AW ad MX5_loopsInUse 4 [some (.ref (ad 0 0 0)), some (.int a), some (.int (nI i)), none] [] o 0 0 (RT (some (.int (a + sumF (cs_use (o.1 0) n) (k) (i)))) o) := by
  obtain ⟨g1, g2, g3, g4, g5, g6⟩ := id G
  intro k
  induction k with
  | zero =>
    intro i a hk
    have hi : i = 5 := by omega
    subst hi
    refine aw_iload_n (x := (nI 5)) rfl dX5_loopsInUse_4 ?_
    refine aw_iconst (v := 5) (by decide) dX5_loopsInUse_5 ?_
    refine aw_icmp_ge (tgt := 35) (by decide) dX5_loopsInUse_6 (fun _ => ?_) (fun z => absurd (by decide) z)
    refine aw_iload_n (x := a) rfl dX5_loopsInUse_35 ?_
    exact aw_iret rfl (by decide) (by decide) dX5_loopsInUse_36 ⟨by first | rfl | (simp [sumF, cs_use, mem]; done) | (simp_all [sumF, cs_use, mem]; done), by first | rfl | (simp [sumF, cs_use, mem]; done) | (simp_all [sumF, cs_use, mem]; done)⟩
  | succ k ih =>
    intro i a hk
    have hi : i < 5 := by omega
    refine aw_iload_n (x := (nI i)) rfl dX5_loopsInUse_4 ?_
    refine aw_iconst (v := 5) (by decide) dX5_loopsInUse_5 ?_
    refine aw_icmp_ge (tgt := 35) (by decide) dX5_loopsInUse_6 (fun z => absurd z (nI_ge (b := 5) hi (by decide))) (fun _ => ?_)
    refine aw_aload_n (x := ad 0 0 0) rfl dX5_loopsInUse_9 ?_
    refine aw_iload_n (x := (nI i)) rfl dX5_loopsInUse_10 ?_
    by_cases q1 : i < n
    · skip
      refine aw_rV (v := some (.ref (ad 1 0 i))) (o2 := o) (ct_X5_loopAt_some G q1) (mm_fit_of cbX5_loopAt (by decide) (by decide)) wq334 cvX5_loopAt (wv0 (by decide)) rfl rfl rfl (Nat.le_of_ble_eq_true rfl) (by decide) (by decide) rfl dX5_loopsInUse_11 ?_
      refine aw_astore_n (L2 := [some (.ref (ad 0 0 0)), some (.int a), some (.int (nI i)), some (.ref (ad 1 0 i))]) (by decide) rfl rfl dX5_loopsInUse_14 ?_
      refine aw_aload_n (x := ad 1 0 i) rfl dX5_loopsInUse_15 ?_
      refine aw_ifnull dX5_loopsInUse_16 ?_
      refine aw_aload_n (x := ad 1 0 i) rfl dX5_loopsInUse_19 ?_
      refine aw_geti (q := (0, 20 * i + 1)) (x := o.1 0 (20 * i + 1)) (wv1 (by decide) (by omega)) rfl rfl flX5_68 rfl (Or.inl rfl) dX5_loopsInUse_20 ?_
      refine aw_if_eq (tgt := 29) (by decide) dX5_loopsInUse_23 (fun b2 => ?_) (fun b2 => ?_)
      · skip
        refine aw_iinc (n := 1) (x := (nI i)) (v := nI (i + 1)) (L2 := [some (.ref (ad 0 0 0)), some (.int a), some (.int (nI (i + 1))), some (.ref (ad 1 0 i))]) rfl (nI_1 i) (by decide) rfl rfl dX5_loopsInUse_29 ?_
        refine aw_goto (tgt := 4) (by decide) dX5_loopsInUse_32 ?_
        have e9 : (RT (some (.int (a + sumF (cs_use (o.1 0) n) (k + 1) (i)))) o) = (RT (some (.int (a + sumF (cs_use (o.1 0) n) (k) (i + 1)))) o) := by first | (simp [sumF, cs_use, sumF_acc, mem, q1, b2]; done) | (simp_all [sumF, cs_use, sumF_acc, mem, q1, b2]; done)
        rw [e9]
        exact AW.locs (ih (i + 1) a (by omega) ) (lsub_keep (lsub_keep (lsub_keep (lsub_none lsub_nil))))
      · skip
        refine aw_iinc (n := 1) (x := a) (v := a + 1) (L2 := [some (.ref (ad 0 0 0)), some (.int (a + 1)), some (.int (nI i)), some (.ref (ad 1 0 i))]) rfl rfl (by decide) rfl rfl dX5_loopsInUse_26 ?_
        refine aw_iinc (n := 1) (x := (nI i)) (v := nI (i + 1)) (L2 := [some (.ref (ad 0 0 0)), some (.int (a + 1)), some (.int (nI (i + 1))), some (.ref (ad 1 0 i))]) rfl (nI_1 i) (by decide) rfl rfl dX5_loopsInUse_29 ?_
        refine aw_goto (tgt := 4) (by decide) dX5_loopsInUse_32 ?_
        have e9 : (RT (some (.int (a + sumF (cs_use (o.1 0) n) (k + 1) (i)))) o) = (RT (some (.int ((a + 1) + sumF (cs_use (o.1 0) n) (k) (i + 1)))) o) := by first | (simp [sumF, cs_use, sumF_acc, mem, q1, b2]; done) | (simp_all [sumF, cs_use, sumF_acc, mem, q1, b2]; done)
        rw [e9]
        exact AW.locs (ih (i + 1) (a + 1) (by omega) ) (lsub_keep (lsub_keep (lsub_keep (lsub_none lsub_nil))))
    · skip
      refine aw_rV (v := some .null) (o2 := o) (ct_X5_loopAt_none (Or.inr (by rw [(G).1]; exact nI_le (by omega) (by omega)))) (mm_fit_of cbX5_loopAt (by decide) (by decide)) wq334 cvX5_loopAt (wv0 (by decide)) rfl rfl rfl (Nat.le_of_ble_eq_true rfl) (by decide) (by decide) rfl dX5_loopsInUse_11 ?_
      refine aw_astore_nN (L2 := [some (.ref (ad 0 0 0)), some (.int a), some (.int (nI i)), some (.null)]) (by decide) rfl rfl dX5_loopsInUse_14 ?_
      refine aw_aload_nN rfl dX5_loopsInUse_15 ?_
      refine aw_ifnullN (tgt := 29) (by decide) dX5_loopsInUse_16 ?_
      refine aw_iinc (n := 1) (x := (nI i)) (v := nI (i + 1)) (L2 := [some (.ref (ad 0 0 0)), some (.int a), some (.int (nI (i + 1))), some (.null)]) rfl (nI_1 i) (by decide) rfl rfl dX5_loopsInUse_29 ?_
      refine aw_goto (tgt := 4) (by decide) dX5_loopsInUse_32 ?_
      have e9 : (RT (some (.int (a + sumF (cs_use (o.1 0) n) (k + 1) (i)))) o) = (RT (some (.int (a + sumF (cs_use (o.1 0) n) (k) (i + 1)))) o) := by first | (simp [sumF, cs_use, sumF_acc, mem, q1]; done) | (simp_all [sumF, cs_use, sumF_acc, mem, q1]; done)
      rw [e9]
      exact AW.locs (ih (i + 1) a (by omega) ) (lsub_keep (lsub_keep (lsub_keep (lsub_none lsub_nil))))
theorem ct_X5_loopsInUse {ad : Nat → Nat → Nat → Nat} {o : wd_S} {n m : Nat} (G : cg (o.1 0) n m) : CT ad MX5_loopsInUse [.ref (ad 0 0 0)] o (RT (some (.int (sumF (cs_use (o.1 0) n) 5 0))) o) := by
  refine CT.of (L := [some (.ref (ad 0 0 0)), none, none, none]) rfl rfl (by decide) (Nat.le_of_ble_eq_true rfl) rfl ?_
  refine aw_iconst (v := 0) (by decide) dX5_loopsInUse_0 ?_
  refine aw_istore_n (L2 := [some (.ref (ad 0 0 0)), some (.int 0), none, none]) (by decide) rfl rfl dX5_loopsInUse_1 ?_
  refine aw_iconst (v := 0) (by decide) dX5_loopsInUse_2 ?_
  refine aw_istore_n (L2 := [some (.ref (ad 0 0 0)), some (.int 0), some (.int 0), none]) (by decide) rfl rfl dX5_loopsInUse_3 ?_
  exact AW.post (AW.locs (lp_X5_loopsInUse G 5 0 0 (by decide)) (lsub_keep (lsub_keep (lsub_keep (lsub_keep lsub_nil))))) (fun r o2 q => by simpa [] using q)
def cs_cut (B : Nat → Int32) (l s : Nat) : Int32 := if cs_cuts B l s = 0 then 0 else 1
theorem ct_X5_isCutOff {ad : Nat → Nat → Nat → Nat} {o : wd_S} {n m l s : Nat} (G : cg (o.1 0) n m) (hl : l < n) (hs : s < m) (hh : o.1 0 (101 + 8 * s + 1) = nI l) : CT ad MX5_isCutOff [.ref (ad 0 0 0), .ref (ad 3 0 s)] o (RT (some (.int (cs_cut (o.1 0) l s))) o) := by
  obtain ⟨g1, g2, g3, g4, g5, g6⟩ := id G
  have hl5 : l < 5 := by omega
  refine CT.of (L := [some (.ref (ad 0 0 0)), some (.ref (ad 3 0 s)), none]) rfl rfl (by decide) (Nat.le_of_ble_eq_true rfl) rfl ?_
  refine aw_aload_n (x := ad 0 0 0) rfl dX5_isCutOff_0 ?_
  refine aw_aload_n (x := ad 3 0 s) rfl dX5_isCutOff_1 ?_
  refine aw_geti (q := (0, 101 + 8 * s + 1)) (x := nI l) (wv3 (by decide) (by omega)) rfl hh flX5_48 rfl (Or.inl rfl) dX5_isCutOff_2 ?_
  refine aw_rV (v := some (.ref (ad 1 0 l))) (o2 := o) (ct_X5_loopAt_some G hl) (mm_fit_of cbX5_loopAt (by decide) (by decide)) wq334 cvX5_loopAt (wv0 (by decide)) rfl rfl rfl (Nat.le_of_ble_eq_true rfl) (by decide) (by decide) rfl dX5_isCutOff_5 ?_
  refine aw_astore_n (L2 := [some (.ref (ad 0 0 0)), some (.ref (ad 3 0 s)), some (.ref (ad 1 0 l))]) (by decide) rfl rfl dX5_isCutOff_8 ?_
  refine aw_aload_n (x := ad 1 0 l) rfl dX5_isCutOff_9 ?_
  refine aw_ifnull dX5_isCutOff_10 ?_
  refine aw_aload_n (x := ad 1 0 l) rfl dX5_isCutOff_13 ?_
  refine aw_aload_n (x := ad 3 0 s) rfl dX5_isCutOff_14 ?_
  refine aw_rV (v := some (.int (cs_cuts (o.1 0) l s))) (o2 := o) (ct_X3_cutsOff (by decide) hl5 (by omega)) (mm_fit_of cbX3_cutsOff (by decide) (by decide)) wq335 cvX3_cutsOff (wv1 (by decide) (by omega)) rfl rfl rfl (Nat.le_of_ble_eq_true rfl) (by decide) (by decide) rfl dX5_isCutOff_15 ?_
  refine aw_if_eq (tgt := 25) (by decide) dX5_isCutOff_18 (fun b1 => ?_) (fun b1 => ?_)
  · skip
    refine aw_iconst (v := 0) (by decide) dX5_isCutOff_25 ?_
    exact aw_zret rfl (by decide) (by decide) (by decide) dX5_isCutOff_26 ⟨by first | rfl | (simp [cs_cut, wd_w_row, row_self, row_row, b1]; done) | (simp_all [cs_cut, wd_w_row, row_self, row_row, b1]; done), by first | rfl | (simp [cs_cut, wd_w_row, row_self, row_row, b1]; done) | (simp_all [cs_cut, wd_w_row, row_self, row_row, b1]; done)⟩
  · skip
    refine aw_iconst (v := 1) (by decide) dX5_isCutOff_21 ?_
    refine aw_goto (tgt := 26) (by decide) dX5_isCutOff_22 ?_
    exact aw_zret rfl (by decide) (by decide) (by decide) dX5_isCutOff_26 ⟨by first | rfl | (simp [cs_cut, wd_w_row, row_self, row_row, b1]; done) | (simp_all [cs_cut, wd_w_row, row_self, row_row, b1]; done), by first | rfl | (simp [cs_cut, wd_w_row, row_self, row_row, b1]; done) | (simp_all [cs_cut, wd_w_row, row_self, row_row, b1]; done)⟩
def cs_party (B : Nat → Int32) (l s : Nat) : Int32 := if B (101 + 8 * s + 6) = 0 then 0 else if cs_cuts B l s ≠ 0 then 0 else if nI s = B (20 * l + 3) then 1 else if B (20 * l + 1) ≠ 8 then 0 else if nI s ≠ B (20 * l + 4) then 0 else 1
theorem ct_X5_isParty {ad : Nat → Nat → Nat → Nat} {o : wd_S} {n m l s : Nat} (G : cg (o.1 0) n m) (hl : l < n) (hs : s < m) (hh : o.1 0 (101 + 8 * s + 1) = nI l) : CT ad MX5_isParty [.ref (ad 0 0 0), .ref (ad 3 0 s)] o (RT (some (.int (cs_party (o.1 0) l s))) o) := by
  obtain ⟨g1, g2, g3, g4, g5, g6⟩ := id G
  have hl5 : l < 5 := by omega
  refine CT.of (L := [some (.ref (ad 0 0 0)), some (.ref (ad 3 0 s)), none]) rfl rfl (by decide) (Nat.le_of_ble_eq_true rfl) rfl ?_
  refine aw_aload_n (x := ad 0 0 0) rfl dX5_isParty_0 ?_
  refine aw_aload_n (x := ad 3 0 s) rfl dX5_isParty_1 ?_
  refine aw_geti (q := (0, 101 + 8 * s + 1)) (x := nI l) (wv3 (by decide) (by omega)) rfl hh flX5_48 rfl (Or.inl rfl) dX5_isParty_2 ?_
  refine aw_rV (v := some (.ref (ad 1 0 l))) (o2 := o) (ct_X5_loopAt_some G hl) (mm_fit_of cbX5_loopAt (by decide) (by decide)) wq334 cvX5_loopAt (wv0 (by decide)) rfl rfl rfl (Nat.le_of_ble_eq_true rfl) (by decide) (by decide) rfl dX5_isParty_5 ?_
  refine aw_astore_n (L2 := [some (.ref (ad 0 0 0)), some (.ref (ad 3 0 s)), some (.ref (ad 1 0 l))]) (by decide) rfl rfl dX5_isParty_8 ?_
  refine aw_aload_n (x := ad 1 0 l) rfl dX5_isParty_9 ?_
  refine aw_ifnull dX5_isParty_10 ?_
  refine aw_aload_n (x := ad 3 0 s) rfl dX5_isParty_13 ?_
  refine aw_geti (q := (0, 101 + 8 * s + 6)) (x := o.1 0 (101 + 8 * s + 6)) (wv3 (by decide) (by omega)) rfl rfl flX5_75 rfl (Or.inr rfl) dX5_isParty_14 ?_
  refine aw_if_eq (tgt := 28) (by decide) dX5_isParty_17 (fun b1 => ?_) (fun b1 => ?_)
  · skip
    refine aw_iconst (v := 0) (by decide) dX5_isParty_28 ?_
    exact aw_zret rfl (by decide) (by decide) (by decide) dX5_isParty_29 ⟨by first | rfl | (simp [cs_party, wd_w_row, row_self, row_row, b1]; done) | (simp_all [cs_party, wd_w_row, row_self, row_row, b1]; done), by first | rfl | (simp [cs_party, wd_w_row, row_self, row_row, b1]; done) | (simp_all [cs_party, wd_w_row, row_self, row_row, b1]; done)⟩
  · skip
    refine aw_aload_n (x := ad 1 0 l) rfl dX5_isParty_20 ?_
    refine aw_aload_n (x := ad 3 0 s) rfl dX5_isParty_21 ?_
    refine aw_rV (v := some (.int (cs_cuts (o.1 0) l s))) (o2 := o) (ct_X3_cutsOff (by decide) hl5 (by omega)) (mm_fit_of cbX3_cutsOff (by decide) (by decide)) wq335 cvX3_cutsOff (wv1 (by decide) (by omega)) rfl rfl rfl (Nat.le_of_ble_eq_true rfl) (by decide) (by decide) rfl dX5_isParty_22 ?_
    refine aw_if_eq (tgt := 30) (by decide) dX5_isParty_25 (fun b2 => ?_) (fun b2 => ?_)
    · skip
      refine aw_aload_n (x := ad 3 0 s) rfl dX5_isParty_30 ?_
      refine aw_num (Or.inr rfl) (wv3 (by decide) (by omega)) flX5_88 rfl rfl dX5_isParty_31 ?_
      refine aw_aload_n (x := ad 1 0 l) rfl dX5_isParty_34 ?_
      refine aw_geti (q := (0, 20 * l + 3)) (x := o.1 0 (20 * l + 3)) (wv1 (by decide) (by omega)) rfl rfl flX5_89 rfl (Or.inl rfl) dX5_isParty_35 ?_
      refine aw_icmp_eq (tgt := 61) (by decide) dX5_isParty_38 (fun b3 => ?_) (fun b3 => ?_)
      · skip
        refine aw_iconst (v := 1) (by decide) dX5_isParty_61 ?_
        refine aw_goto (tgt := 66) (by decide) dX5_isParty_62 ?_
        exact aw_zret rfl (by decide) (by decide) (by decide) dX5_isParty_66 ⟨by first | rfl | (simp [cs_party, wd_w_row, row_self, row_row, b1, b2, b3]; done) | (simp_all [cs_party, wd_w_row, row_self, row_row, b1, b2, b3]; done), by first | rfl | (simp [cs_party, wd_w_row, row_self, row_row, b1, b2, b3]; done) | (simp_all [cs_party, wd_w_row, row_self, row_row, b1, b2, b3]; done)⟩
      · skip
        refine aw_aload_n (x := ad 1 0 l) rfl dX5_isParty_41 ?_
        refine aw_geti (q := (0, 20 * l + 1)) (x := o.1 0 (20 * l + 1)) (wv1 (by decide) (by omega)) rfl rfl flX5_68 rfl (Or.inl rfl) dX5_isParty_42 ?_
        refine aw_bipush (v := 8) (by decide) dX5_isParty_45 ?_
        refine aw_icmp_ne (tgt := 65) (by decide) dX5_isParty_47 (fun b4 => ?_) (fun b4 => ?_)
        · skip
          refine aw_iconst (v := 0) (by decide) dX5_isParty_65 ?_
          exact aw_zret rfl (by decide) (by decide) (by decide) dX5_isParty_66 ⟨by first | rfl | (simp [cs_party, wd_w_row, row_self, row_row, b1, b2, b3, b4]; done) | (simp_all [cs_party, wd_w_row, row_self, row_row, b1, b2, b3, b4]; done), by first | rfl | (simp [cs_party, wd_w_row, row_self, row_row, b1, b2, b3, b4]; done) | (simp_all [cs_party, wd_w_row, row_self, row_row, b1, b2, b3, b4]; done)⟩
        · skip
          refine aw_aload_n (x := ad 3 0 s) rfl dX5_isParty_50 ?_
          refine aw_num (Or.inr rfl) (wv3 (by decide) (by omega)) flX5_88 rfl rfl dX5_isParty_51 ?_
          refine aw_aload_n (x := ad 1 0 l) rfl dX5_isParty_54 ?_
          refine aw_geti (q := (0, 20 * l + 4)) (x := o.1 0 (20 * l + 4)) (wv1 (by decide) (by omega)) rfl rfl flX5_92 rfl (Or.inl rfl) dX5_isParty_55 ?_
          refine aw_icmp_ne (tgt := 65) (by decide) dX5_isParty_58 (fun b5 => ?_) (fun b5 => ?_)
          · skip
            refine aw_iconst (v := 0) (by decide) dX5_isParty_65 ?_
            exact aw_zret rfl (by decide) (by decide) (by decide) dX5_isParty_66 ⟨by first | rfl | (simp [cs_party, wd_w_row, row_self, row_row, b1, b2, b3, b4, b5]; done) | (simp_all [cs_party, wd_w_row, row_self, row_row, b1, b2, b3, b4, b5]; done), by first | rfl | (simp [cs_party, wd_w_row, row_self, row_row, b1, b2, b3, b4, b5]; done) | (simp_all [cs_party, wd_w_row, row_self, row_row, b1, b2, b3, b4, b5]; done)⟩
          · skip
            refine aw_iconst (v := 1) (by decide) dX5_isParty_61 ?_
            refine aw_goto (tgt := 66) (by decide) dX5_isParty_62 ?_
            exact aw_zret rfl (by decide) (by decide) (by decide) dX5_isParty_66 ⟨by first | rfl | (simp [cs_party, wd_w_row, row_self, row_row, b1, b2, b3, b4, b5]; done) | (simp_all [cs_party, wd_w_row, row_self, row_row, b1, b2, b3, b4, b5]; done), by first | rfl | (simp [cs_party, wd_w_row, row_self, row_row, b1, b2, b3, b4, b5]; done) | (simp_all [cs_party, wd_w_row, row_self, row_row, b1, b2, b3, b4, b5]; done)⟩
    · skip
      refine aw_iconst (v := 0) (by decide) dX5_isParty_28 ?_
      exact aw_zret rfl (by decide) (by decide) (by decide) dX5_isParty_29 ⟨by first | rfl | (simp [cs_party, wd_w_row, row_self, row_row, b1, b2]; done) | (simp_all [cs_party, wd_w_row, row_self, row_row, b1, b2]; done), by first | rfl | (simp [cs_party, wd_w_row, row_self, row_row, b1, b2]; done) | (simp_all [cs_party, wd_w_row, row_self, row_row, b1, b2]; done)⟩
def cs_stand (B : Nat → Int32) (l s : Nat) : Int32 := if B (101 + 8 * s + 6) = 0 then 0 else if cs_cut B l s ≠ 0 then 1 else if cs_party B l s ≠ 0 then 2 else if B (101 + 8 * s + 7) = 0 then 3 else 4
theorem ct_X5_standingOf {ad : Nat → Nat → Nat → Nat} {o : wd_S} {n m l s : Nat} (G : cg (o.1 0) n m) (hl : l < n) (hs : s < m) (hh : o.1 0 (101 + 8 * s + 1) = nI l) : CT ad MX5_standingOf [.ref (ad 0 0 0), .ref (ad 3 0 s)] o (RT (some (.int (cs_stand (o.1 0) l s))) o) := by
  obtain ⟨g1, g2, g3, g4, g5, g6⟩ := id G
  have hl5 : l < 5 := by omega
  refine CT.of (L := [some (.ref (ad 0 0 0)), some (.ref (ad 3 0 s))]) rfl rfl (by decide) (Nat.le_of_ble_eq_true rfl) rfl ?_
  refine aw_aload_n (x := ad 3 0 s) rfl dX5_standingOf_0 ?_
  refine aw_geti (q := (0, 101 + 8 * s + 6)) (x := o.1 0 (101 + 8 * s + 6)) (wv3 (by decide) (by omega)) rfl rfl flX5_75 rfl (Or.inr rfl) dX5_standingOf_1 ?_
  refine aw_if_ne (tgt := 9) (by decide) dX5_standingOf_4 (fun b1 => ?_) (fun b1 => ?_)
  · skip
    refine aw_aload_n (x := ad 0 0 0) rfl dX5_standingOf_9 ?_
    refine aw_aload_n (x := ad 3 0 s) rfl dX5_standingOf_10 ?_
    refine aw_rV (v := some (.int (cs_cut (o.1 0) l s))) (o2 := o) (ct_X5_isCutOff G hl hs hh) (mm_fit_of cbX5_isCutOff (by decide) (by decide)) wq330 cvX5_isCutOff (wv0 (by decide)) rfl rfl rfl (Nat.le_of_ble_eq_true rfl) (by decide) (by decide) rfl dX5_standingOf_11 ?_
    refine aw_if_eq (tgt := 19) (by decide) dX5_standingOf_14 (fun b2 => ?_) (fun b2 => ?_)
    · skip
      refine aw_aload_n (x := ad 0 0 0) rfl dX5_standingOf_19 ?_
      refine aw_aload_n (x := ad 3 0 s) rfl dX5_standingOf_20 ?_
      refine aw_rV (v := some (.int (cs_party (o.1 0) l s))) (o2 := o) (ct_X5_isParty G hl hs hh) (mm_fit_of cbX5_isParty (by decide) (by decide)) wq343 cvX5_isParty (wv0 (by decide)) rfl rfl rfl (Nat.le_of_ble_eq_true rfl) (by decide) (by decide) rfl dX5_standingOf_21 ?_
      refine aw_if_eq (tgt := 29) (by decide) dX5_standingOf_24 (fun b3 => ?_) (fun b3 => ?_)
      · skip
        refine aw_aload_n (x := ad 3 0 s) rfl dX5_standingOf_29 ?_
        refine aw_geti (q := (0, 101 + 8 * s + 7)) (x := o.1 0 (101 + 8 * s + 7)) (wv3 (by decide) (by omega)) rfl rfl flX5_85 rfl (Or.inr rfl) dX5_standingOf_30 ?_
        refine aw_if_eq (tgt := 40) (by decide) dX5_standingOf_33 (fun b4 => ?_) (fun b4 => ?_)
        · skip
          refine aw_iconst (v := 3) (by decide) dX5_standingOf_40 ?_
          exact aw_iret rfl (by decide) (by decide) dX5_standingOf_41 ⟨by first | rfl | (simp [cs_stand, wd_w_row, row_self, row_row, b1, b2, b3, b4]; done) | (simp_all [cs_stand, wd_w_row, row_self, row_row, b1, b2, b3, b4]; done), by first | rfl | (simp [cs_stand, wd_w_row, row_self, row_row, b1, b2, b3, b4]; done) | (simp_all [cs_stand, wd_w_row, row_self, row_row, b1, b2, b3, b4]; done)⟩
        · skip
          refine aw_iconst (v := 4) (by decide) dX5_standingOf_36 ?_
          refine aw_goto (tgt := 41) (by decide) dX5_standingOf_37 ?_
          exact aw_iret rfl (by decide) (by decide) dX5_standingOf_41 ⟨by first | rfl | (simp [cs_stand, wd_w_row, row_self, row_row, b1, b2, b3, b4]; done) | (simp_all [cs_stand, wd_w_row, row_self, row_row, b1, b2, b3, b4]; done), by first | rfl | (simp [cs_stand, wd_w_row, row_self, row_row, b1, b2, b3, b4]; done) | (simp_all [cs_stand, wd_w_row, row_self, row_row, b1, b2, b3, b4]; done)⟩
      · skip
        refine aw_iconst (v := 2) (by decide) dX5_standingOf_27 ?_
        exact aw_iret rfl (by decide) (by decide) dX5_standingOf_28 ⟨by first | rfl | (simp [cs_stand, wd_w_row, row_self, row_row, b1, b2, b3]; done) | (simp_all [cs_stand, wd_w_row, row_self, row_row, b1, b2, b3]; done), by first | rfl | (simp [cs_stand, wd_w_row, row_self, row_row, b1, b2, b3]; done) | (simp_all [cs_stand, wd_w_row, row_self, row_row, b1, b2, b3]; done)⟩
    · skip
      refine aw_iconst (v := 1) (by decide) dX5_standingOf_17 ?_
      exact aw_iret rfl (by decide) (by decide) dX5_standingOf_18 ⟨by first | rfl | (simp [cs_stand, wd_w_row, row_self, row_row, b1, b2]; done) | (simp_all [cs_stand, wd_w_row, row_self, row_row, b1, b2]; done), by first | rfl | (simp [cs_stand, wd_w_row, row_self, row_row, b1, b2]; done) | (simp_all [cs_stand, wd_w_row, row_self, row_row, b1, b2]; done)⟩
  · skip
    refine aw_iconst (v := 0) (by decide) dX5_standingOf_7 ?_
    exact aw_iret rfl (by decide) (by decide) dX5_standingOf_8 ⟨by first | rfl | (simp [cs_stand, wd_w_row, row_self, row_row, b1]; done) | (simp_all [cs_stand, wd_w_row, row_self, row_row, b1]; done), by first | rfl | (simp [cs_stand, wd_w_row, row_self, row_row, b1]; done) | (simp_all [cs_stand, wd_w_row, row_self, row_row, b1]; done)⟩
def cntN (q : Nat → Bool) : Nat → Nat → Nat
  | 0, _ => 0
  | k + 1, i => (if q i then 1 else 0) + cntN q k (i + 1)
def cs_bef (B : Nat → Int32) (s t : Nat) : Int32 := if B (101 + 8 * s + 5) > B (101 + 8 * t + 5) then 1 else if B (101 + 8 * s + 5) ≠ B (101 + 8 * t + 5) then 0 else if nI s ≥ nI t then 0 else 1
def cs_ahead (B : Nat → Int32) (m l t i : Nat) : Bool := decide (mem B m l i) && decide (cs_bef B i t ≠ 0)
theorem cntN_acc (a b c : Nat) : a + (b + c) = a + b + c := (Nat.add_assoc a b c).symm
def cs_rank (B : Nat → Int32) (m l t : Nat) : Nat := cntN (cs_ahead B m l t) 16 0
theorem ct_X6_comesBefore {ad : Nat → Nat → Nat → Nat} {o : wd_S} {s t : Nat} (hs : s < 16) (ht : t < 16) : CT ad MX6_comesBefore [.ref (ad 3 0 s), .ref (ad 3 0 t)] o (RT (some (.int (cs_bef (o.1 0) s t))) o) := by
  refine CT.of (L := [some (.ref (ad 3 0 s)), some (.ref (ad 3 0 t))]) rfl rfl (by decide) (Nat.le_of_ble_eq_true rfl) rfl ?_
  refine aw_aload_n (x := ad 3 0 s) rfl dX6_comesBefore_0 ?_
  refine aw_geti (q := (0, 101 + 8 * s + 5)) (x := o.1 0 (101 + 8 * s + 5)) (wv3 (by decide) hs) rfl rfl flX6_26 rfl (Or.inl rfl) dX6_comesBefore_1 ?_
  refine aw_aload_n (x := ad 3 0 t) rfl dX6_comesBefore_4 ?_
  refine aw_geti (q := (0, 101 + 8 * t + 5)) (x := o.1 0 (101 + 8 * t + 5)) (wv3 (by decide) ht) rfl rfl flX6_26 rfl (Or.inl rfl) dX6_comesBefore_5 ?_
  refine aw_icmp_gt (tgt := 33) (by decide) dX6_comesBefore_8 (fun b1 => ?_) (fun b1 => ?_)
  · skip
    refine aw_iconst (v := 1) (by decide) dX6_comesBefore_33 ?_
    refine aw_goto (tgt := 38) (by decide) dX6_comesBefore_34 ?_
    exact aw_zret rfl (by decide) (by decide) (by decide) dX6_comesBefore_38 ⟨by first | rfl | (simp [cs_bef, wd_w_row, row_self, row_row, b1]; done) | (simp_all [cs_bef, wd_w_row, row_self, row_row, b1]; done), by first | rfl | (simp [cs_bef, wd_w_row, row_self, row_row, b1]; done) | (simp_all [cs_bef, wd_w_row, row_self, row_row, b1]; done)⟩
  · skip
    refine aw_aload_n (x := ad 3 0 s) rfl dX6_comesBefore_11 ?_
    refine aw_geti (q := (0, 101 + 8 * s + 5)) (x := o.1 0 (101 + 8 * s + 5)) (wv3 (by decide) hs) rfl rfl flX6_26 rfl (Or.inl rfl) dX6_comesBefore_12 ?_
    refine aw_aload_n (x := ad 3 0 t) rfl dX6_comesBefore_15 ?_
    refine aw_geti (q := (0, 101 + 8 * t + 5)) (x := o.1 0 (101 + 8 * t + 5)) (wv3 (by decide) ht) rfl rfl flX6_26 rfl (Or.inl rfl) dX6_comesBefore_16 ?_
    refine aw_icmp_ne (tgt := 37) (by decide) dX6_comesBefore_19 (fun b2 => ?_) (fun b2 => ?_)
    · skip
      refine aw_iconst (v := 0) (by decide) dX6_comesBefore_37 ?_
      exact aw_zret rfl (by decide) (by decide) (by decide) dX6_comesBefore_38 ⟨by first | rfl | (simp [cs_bef, wd_w_row, row_self, row_row, b1, b2]; done) | (simp_all [cs_bef, wd_w_row, row_self, row_row, b1, b2]; done), by first | rfl | (simp [cs_bef, wd_w_row, row_self, row_row, b1, b2]; done) | (simp_all [cs_bef, wd_w_row, row_self, row_row, b1, b2]; done)⟩
    · skip
      refine aw_aload_n (x := ad 3 0 s) rfl dX6_comesBefore_22 ?_
      refine aw_num (Or.inr rfl) (wv3 (by decide) hs) flX6_7 rfl rfl dX6_comesBefore_23 ?_
      refine aw_aload_n (x := ad 3 0 t) rfl dX6_comesBefore_26 ?_
      refine aw_num (Or.inr rfl) (wv3 (by decide) ht) flX6_7 rfl rfl dX6_comesBefore_27 ?_
      refine aw_icmp_ge (tgt := 37) (by decide) dX6_comesBefore_30 (fun b3 => ?_) (fun b3 => ?_)
      · skip
        refine aw_iconst (v := 0) (by decide) dX6_comesBefore_37 ?_
        exact aw_zret rfl (by decide) (by decide) (by decide) dX6_comesBefore_38 ⟨by first | rfl | (simp [cs_bef, wd_w_row, row_self, row_row, b1, b2, b3]; done) | (simp_all [cs_bef, wd_w_row, row_self, row_row, b1, b2, b3]; done), by first | rfl | (simp [cs_bef, wd_w_row, row_self, row_row, b1, b2, b3]; done) | (simp_all [cs_bef, wd_w_row, row_self, row_row, b1, b2, b3]; done)⟩
      · skip
        refine aw_iconst (v := 1) (by decide) dX6_comesBefore_33 ?_
        refine aw_goto (tgt := 38) (by decide) dX6_comesBefore_34 ?_
        exact aw_zret rfl (by decide) (by decide) (by decide) dX6_comesBefore_38 ⟨by first | rfl | (simp [cs_bef, wd_w_row, row_self, row_row, b1, b2, b3]; done) | (simp_all [cs_bef, wd_w_row, row_self, row_row, b1, b2, b3]; done), by first | rfl | (simp [cs_bef, wd_w_row, row_self, row_row, b1, b2, b3]; done) | (simp_all [cs_bef, wd_w_row, row_self, row_row, b1, b2, b3]; done)⟩
theorem lp_X5_bestCodeOf {ad : Nat → Nat → Nat → Nat} {o : wd_S} {n m l : Nat} (G : cg (o.1 0) n m) (hl : l < 5) {t : Nat} (ht : t < 16) : ∀ (k i : Nat) (a : Nat), i + k = 16 → a + cntN (cs_ahead (o.1 0) m l t) k i < 14 → AW ad MX5_bestCodeOf 5 [some (.ref (ad 0 0 0)), some (.ref (ad 1 0 l)), some (.ref (ad 3 0 t)), some (.int (nI a)), some (.int (nI i)), none] [] o 0 0 (RT (some (.int (mm_bl (a + cntN (cs_ahead (o.1 0) m l t) (k) (i))))) o) := by
  obtain ⟨g1, g2, g3, g4, g5, g6⟩ := id G
  intro k
  induction k with
  | zero =>
    intro i a hk hr
    have hi : i = 16 := by omega
    subst hi
    refine aw_iload (x := (nI 16)) rfl dX5_bestCodeOf_5 ?_
    refine aw_bipush (v := 16) (by decide) dX5_bestCodeOf_7 ?_
    refine aw_icmp_ge (tgt := 44) (by decide) dX5_bestCodeOf_9 (fun _ => ?_) (fun z => absurd (by decide) z)
    refine aw_iload_n (x := (nI a)) rfl dX5_bestCodeOf_44 ?_
    refine aw_rS (v := some (.int (mm_bl a))) (o2 := o) (ct_X0_byLength (by simpa [cntN] using hr)) (mm_fit_of cbX0_byLength (by decide) (by decide)) wq752 wq753 rfl rfl (Nat.le_of_ble_eq_true rfl) (by decide) (by decide) rfl dX5_bestCodeOf_45 ?_
    exact aw_iret rfl (by decide) (by decide) dX5_bestCodeOf_48 ⟨by first | rfl | (simp [cntN, mem]; done) | (simp_all [cntN, mem]; done), by first | rfl | (simp [cntN, mem]; done) | (simp_all [cntN, mem]; done)⟩
  | succ k ih =>
    intro i a hk hr
    have hi : i < 16 := by omega
    refine aw_iload (x := (nI i)) rfl dX5_bestCodeOf_5 ?_
    refine aw_bipush (v := 16) (by decide) dX5_bestCodeOf_7 ?_
    refine aw_icmp_ge (tgt := 44) (by decide) dX5_bestCodeOf_9 (fun z => absurd z (nI_ge (b := 16) hi (by decide))) (fun _ => ?_)
    refine aw_aload_n (x := ad 0 0 0) rfl dX5_bestCodeOf_12 ?_
    refine aw_aload_n (x := ad 1 0 l) rfl dX5_bestCodeOf_13 ?_
    refine aw_iload (x := (nI i)) rfl dX5_bestCodeOf_14 ?_
    by_cases q1 : mem (o.1 0) m l i
    · skip
      refine aw_rV (v := some (.ref (ad 3 0 i))) (o2 := o) (ct_X5_memberAt_some G hl q1) (mm_fit_of cbX5_memberAt (by decide) (by decide)) wq275 cvX5_memberAt (wv0 (by decide)) rfl rfl rfl (Nat.le_of_ble_eq_true rfl) (by decide) (by decide) rfl dX5_bestCodeOf_16 ?_
      refine aw_astore (L2 := [some (.ref (ad 0 0 0)), some (.ref (ad 1 0 l)), some (.ref (ad 3 0 t)), some (.int (nI a)), some (.int (nI i)), some (.ref (ad 3 0 i))]) (by decide) rfl rfl dX5_bestCodeOf_19 ?_
      refine aw_aload (x := ad 3 0 i) rfl dX5_bestCodeOf_21 ?_
      refine aw_ifnull dX5_bestCodeOf_23 ?_
      refine aw_aload (x := ad 3 0 i) rfl dX5_bestCodeOf_26 ?_
      refine aw_aload_n (x := ad 3 0 t) rfl dX5_bestCodeOf_28 ?_
      refine aw_rV (v := some (.int (cs_bef (o.1 0) i t))) (o2 := o) (ct_X6_comesBefore (by omega) ht) (mm_fit_of cbX6_comesBefore (by decide) (by decide)) wq748 cvX6_comesBefore (wv3 (by decide) (by omega)) rfl rfl rfl (Nat.le_of_ble_eq_true rfl) (by decide) (by decide) rfl dX5_bestCodeOf_29 ?_
      refine aw_if_eq (tgt := 38) (by decide) dX5_bestCodeOf_32 (fun b2 => ?_) (fun b2 => ?_)
      · skip
        refine aw_iinc (n := 1) (x := (nI i)) (v := nI (i + 1)) (L2 := [some (.ref (ad 0 0 0)), some (.ref (ad 1 0 l)), some (.ref (ad 3 0 t)), some (.int (nI a)), some (.int (nI (i + 1))), some (.ref (ad 3 0 i))]) rfl (nI_1 i) (by decide) rfl rfl dX5_bestCodeOf_38 ?_
        refine aw_goto (tgt := 5) (by decide) dX5_bestCodeOf_41 ?_
        have e9 : (RT (some (.int (mm_bl (a + cntN (cs_ahead (o.1 0) m l t) (k + 1) (i))))) o) = (RT (some (.int (mm_bl (a + cntN (cs_ahead (o.1 0) m l t) (k) (i + 1))))) o) := by first | (simp [cntN, cs_ahead, cntN_acc, mem, q1, b2]; done) | (simp_all [cntN, cs_ahead, cntN_acc, mem, q1, b2]; done)
        rw [e9]
        exact AW.locs (ih (i + 1) a (by omega) (by revert hr; simp [cntN, cs_ahead, mem, q1, b2]; try omega)) (lsub_keep (lsub_keep (lsub_keep (lsub_keep (lsub_keep (lsub_none lsub_nil))))))
      · skip
        refine aw_iinc (n := 1) (x := (nI a)) (v := nI (a + 1)) (L2 := [some (.ref (ad 0 0 0)), some (.ref (ad 1 0 l)), some (.ref (ad 3 0 t)), some (.int (nI (a + 1))), some (.int (nI i)), some (.ref (ad 3 0 i))]) rfl (nI_1 a) (by decide) rfl rfl dX5_bestCodeOf_35 ?_
        refine aw_iinc (n := 1) (x := (nI i)) (v := nI (i + 1)) (L2 := [some (.ref (ad 0 0 0)), some (.ref (ad 1 0 l)), some (.ref (ad 3 0 t)), some (.int (nI (a + 1))), some (.int (nI (i + 1))), some (.ref (ad 3 0 i))]) rfl (nI_1 i) (by decide) rfl rfl dX5_bestCodeOf_38 ?_
        refine aw_goto (tgt := 5) (by decide) dX5_bestCodeOf_41 ?_
        have e9 : (RT (some (.int (mm_bl (a + cntN (cs_ahead (o.1 0) m l t) (k + 1) (i))))) o) = (RT (some (.int (mm_bl ((a + 1) + cntN (cs_ahead (o.1 0) m l t) (k) (i + 1))))) o) := by first | (simp [cntN, cs_ahead, cntN_acc, mem, q1, b2]; done) | (simp_all [cntN, cs_ahead, cntN_acc, mem, q1, b2]; done)
        rw [e9]
        exact AW.locs (ih (i + 1) (a + 1) (by omega) (by revert hr; simp [cntN, cs_ahead, mem, q1, b2]; try omega)) (lsub_keep (lsub_keep (lsub_keep (lsub_keep (lsub_keep (lsub_none lsub_nil))))))
    · skip
      refine aw_rV (v := some .null) (o2 := o) (ct_X5_memberAt_none G hl (by omega) q1) (mm_fit_of cbX5_memberAt (by decide) (by decide)) wq275 cvX5_memberAt (wv0 (by decide)) rfl rfl rfl (Nat.le_of_ble_eq_true rfl) (by decide) (by decide) rfl dX5_bestCodeOf_16 ?_
      refine aw_astoreN (L2 := [some (.ref (ad 0 0 0)), some (.ref (ad 1 0 l)), some (.ref (ad 3 0 t)), some (.int (nI a)), some (.int (nI i)), some (.null)]) (by decide) rfl rfl dX5_bestCodeOf_19 ?_
      refine aw_aloadN rfl dX5_bestCodeOf_21 ?_
      refine aw_ifnullN (tgt := 38) (by decide) dX5_bestCodeOf_23 ?_
      refine aw_iinc (n := 1) (x := (nI i)) (v := nI (i + 1)) (L2 := [some (.ref (ad 0 0 0)), some (.ref (ad 1 0 l)), some (.ref (ad 3 0 t)), some (.int (nI a)), some (.int (nI (i + 1))), some (.null)]) rfl (nI_1 i) (by decide) rfl rfl dX5_bestCodeOf_38 ?_
      refine aw_goto (tgt := 5) (by decide) dX5_bestCodeOf_41 ?_
      have e9 : (RT (some (.int (mm_bl (a + cntN (cs_ahead (o.1 0) m l t) (k + 1) (i))))) o) = (RT (some (.int (mm_bl (a + cntN (cs_ahead (o.1 0) m l t) (k) (i + 1))))) o) := by first | (simp [cntN, cs_ahead, cntN_acc, mem, q1]; done) | (simp_all [cntN, cs_ahead, cntN_acc, mem, q1]; done)
      rw [e9]
      exact AW.locs (ih (i + 1) a (by omega) (by revert hr; simp [cntN, cs_ahead, mem, q1]; try omega)) (lsub_keep (lsub_keep (lsub_keep (lsub_keep (lsub_keep (lsub_none lsub_nil))))))
theorem ct_X5_bestCodeOf {ad : Nat → Nat → Nat → Nat} {o : wd_S} {n m l : Nat} (G : cg (o.1 0) n m) (hl : l < 5) {t : Nat} (ht : t < 16) (hr : cs_rank (o.1 0) m l t < 14) : CT ad MX5_bestCodeOf [.ref (ad 0 0 0), .ref (ad 1 0 l), .ref (ad 3 0 t)] o (RT (some (.int (mm_bl (cs_rank (o.1 0) m l t)))) o) := by
  refine CT.of (L := [some (.ref (ad 0 0 0)), some (.ref (ad 1 0 l)), some (.ref (ad 3 0 t)), none, none, none]) rfl rfl (by decide) (Nat.le_of_ble_eq_true rfl) rfl ?_
  refine aw_iconst (v := 0) (by decide) dX5_bestCodeOf_0 ?_
  refine aw_istore_n (L2 := [some (.ref (ad 0 0 0)), some (.ref (ad 1 0 l)), some (.ref (ad 3 0 t)), some (.int 0), none, none]) (by decide) rfl rfl dX5_bestCodeOf_1 ?_
  refine aw_iconst (v := 0) (by decide) dX5_bestCodeOf_2 ?_
  refine aw_istore (L2 := [some (.ref (ad 0 0 0)), some (.ref (ad 1 0 l)), some (.ref (ad 3 0 t)), some (.int 0), some (.int 0), none]) (by decide) rfl rfl dX5_bestCodeOf_3 ?_
  exact AW.post (AW.locs (lp_X5_bestCodeOf G hl ht 16 0 0 (by decide) (by simpa [cs_rank] using hr)) (lsub_keep (lsub_keep (lsub_keep (lsub_keep (lsub_keep (lsub_keep lsub_nil))))))) (fun r o2 q => by simpa [cs_rank] using q)
