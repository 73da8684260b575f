/-! Exchange: what receivers, numbers, ticks and faults bring about, as functions of a state's row -/
def lk (n : Nat) (x : Int32) : Option Nat := if x < 0 then none else if x.toNatClampNeg < n then some x.toNatClampNeg else none
theorem lk_some {n e : Nat} {x : Int32} (h : lk n x = some e) : x = nI e ∧ e < n := by
  unfold lk at h
  split at h
  · cases h
  · rename_i h0
    split at h
    · rename_i h1
      cases h
      obtain ⟨j, hj, rfl⟩ := nI_of h0
      rw [nI_clamp hj] at h1 ⊢
      exact ⟨rfl, h1⟩
    · cases h
theorem lk_none {n : Nat} {x y : Int32} (hy : y = nI n) (hn : n ≤ 16) (h : lk n x = none) : x < 0 ∨ x ≥ y := by
  unfold lk at h
  split at h
  · rename_i h0; exact Or.inl h0
  · rename_i h0
    split at h
    · cases h
    · rename_i h1
      obtain ⟨j, hj, rfl⟩ := nI_of h0
      rw [nI_clamp hj] at h1
      subst hy
      exact Or.inr (nI_le (by omega) hj)
theorem lk_nI {n e : Nat} (h : e < n) (hn : n ≤ 16) : lk n (nI e) = some e := by
  unfold lk
  rw [if_neg (nI_pos (by omega)), nI_clamp (by omega), if_pos h]
theorem lk_m1 {n : Nat} : lk n (-1) = none := by
  unfold lk
  rw [if_pos (by decide)]
theorem comeTo_hi {B : Nat → Int32} {l x : Nat} {p : Int32} (h : ∀ k, 1 ≤ k → k ≤ 6 → x ≠ 20 * l + k) : cs_comeTo B l p x = B x := by
  have h1 := h 1 (by decide) (by decide)
  have h2 := h 2 (by decide) (by decide)
  have h3 := h 3 (by decide) (by decide)
  have h4 := h 4 (by decide) (by decide)
  have h5 := h 5 (by decide) (by decide)
  have h6 := h 6 (by decide) (by decide)
  simp only [cs_comeTo]
  split <;> split <;> split <;> (try split) <;> simp [upd, h1, h2, h3, h4, h5, h6]
theorem cg_comeTo {B : Nat → Int32} {n m l : Nat} {p : Int32} (G : cg B n m) (hl : l < 5) : cg (cs_comeTo B l p) n m := by
  obtain ⟨g1, g2, g3, g4, g5, g6⟩ := G
  refine ⟨by rw [comeTo_hi (by omega)]; exact g1, g2, by rw [comeTo_hi (by omega)]; exact g3, g4, fun s hs => ?_, fun s hs => ?_⟩
  · rw [comeTo_hi (by omega)]; exact g5 s hs
  · rw [comeTo_hi (by omega)]; exact g6 s hs
def cs_cw (B : Nat → Int32) (l : Nat) (p f : Int32) : Nat → Int32 := cs_comeTo (upd B (20 * l + 3) f) l p
theorem cg_cw {B : Nat → Int32} {n m l : Nat} {p f : Int32} (G : cg B n m) (hl : l < 5) : cg (cs_cw B l p f) n m := cg_comeTo (cg_upd G (by omega) (by omega) (fun _ _ => ⟨by omega, by omega⟩)) hl
theorem cw_hi {B : Nat → Int32} {l x : Nat} {p f : Int32} (h : ∀ k, 1 ≤ k → k ≤ 6 → x ≠ 20 * l + k) : cs_cw B l p f x = B x := by
  unfold cs_cw
  rw [comeTo_hi h, upd_ne _ _ (h 3 (by decide) (by decide))]
def cs_on (B : Nat → Int32) (m l i : Nat) : Bool := decide (mem B m l i) && (decide (B (101 + 8 * i + 6) ≠ 0) && decide (cs_cuts B l i = 0))
def cs_lowF (B : Nat → Int32) (m l : Nat) : Nat → Nat → Int32
  | 0, _ => -1
  | k + 1, i => if cs_on B m l i = true then nI i else cs_lowF B m l k (i + 1)
def cs_low (B : Nat → Int32) (m l : Nat) : Int32 := cs_lowF B m l 16 0
theorem lp_X1_low {ad : Nat → Nat → Nat → Nat} {o : wd_S} {n m l : Nat} (G : cg (o.1 0) n m) (hl : l < 5) : ∀ (k i : Nat) , i + k = 16 → AW ad MX1_lowestOffHook 2 [some (.ref (ad 8 0 0)), some (.ref (ad 1 0 l)), some (.int (nI i)), none] [] o 0 0 (RT (some (.int (cs_lowF (o.1 0) m l (k) (i)))) o) := by
  obtain ⟨g1, g2, g3, g4, g5, g6⟩ := id G
  intro k
  induction k with
  | zero =>
    intro i hk
    have hi : i = 16 := by omega
    subst hi
    refine aw_iload_n (x := (nI 16)) rfl dX1_lowestOffHook_2 ?_
    refine aw_bipush (v := 16) (by decide) dX1_lowestOffHook_3 ?_
    refine aw_icmp_ge (tgt := 45) (by decide) dX1_lowestOffHook_5 (fun _ => ?_) (fun z => absurd (by decide) z)
    refine aw_iconst (v := (-1)) (by decide) dX1_lowestOffHook_45 ?_
    exact aw_iret rfl (by decide) (by decide) dX1_lowestOffHook_46 ⟨by first | rfl | (simp [cs_lowF, cs_on, mem]; done) | (simp_all [cs_lowF, cs_on, mem]; done), by first | rfl | (simp [cs_lowF, cs_on, mem]; done) | (simp_all [cs_lowF, cs_on, mem]; done)⟩
  | succ k ih =>
    intro i hk
    have hi : i < 16 := by omega
    refine aw_iload_n (x := (nI i)) rfl dX1_lowestOffHook_2 ?_
    refine aw_bipush (v := 16) (by decide) dX1_lowestOffHook_3 ?_
    refine aw_icmp_ge (tgt := 45) (by decide) dX1_lowestOffHook_5 (fun z => absurd z (nI_ge (b := 16) hi (by decide))) (fun _ => ?_)
    refine aw_aload_n (x := ad 8 0 0) rfl dX1_lowestOffHook_8 ?_
    refine aw_getr (q := (0, 0, 0)) wv8 rfl flX1_9 rfl rfl dX1_lowestOffHook_9 ?_
    refine aw_aload_n (x := ad 1 0 l) rfl dX1_lowestOffHook_12 ?_
    refine aw_iload_n (x := (nI i)) rfl dX1_lowestOffHook_13 ?_
    by_cases q1 : mem (o.1 0) m l i
    · skip
      refine aw_rV (v := some (.ref (ad 3 0 i))) (o2 := o) (ct_X5_memberAt_some G hl q1) (mm_fit_of cbX5_memberAt (by decide) (by decide)) wq612 cvX5_memberAt (wv0 (by decide)) rfl rfl rfl (Nat.le_of_ble_eq_true rfl) (by decide) (by decide) rfl dX1_lowestOffHook_14 ?_
      refine aw_astore_n (L2 := [some (.ref (ad 8 0 0)), some (.ref (ad 1 0 l)), some (.int (nI i)), some (.ref (ad 3 0 i))]) (by decide) rfl rfl dX1_lowestOffHook_17 ?_
      refine aw_aload_n (x := ad 3 0 i) rfl dX1_lowestOffHook_18 ?_
      refine aw_ifnull dX1_lowestOffHook_19 ?_
      refine aw_aload_n (x := ad 3 0 i) rfl dX1_lowestOffHook_22 ?_
      refine aw_geti (q := (0, 101 + 8 * i + 6)) (x := o.1 0 (101 + 8 * i + 6)) (wv3 (by decide) (by omega)) rfl rfl flX1_15 rfl (Or.inr rfl) dX1_lowestOffHook_23 ?_
      refine aw_if_eq (tgt := 39) (by decide) dX1_lowestOffHook_26 (fun b2 => ?_) (fun b2 => ?_)
      · skip
        refine aw_iinc (n := 1) (x := (nI i)) (v := nI (i + 1)) (L2 := [some (.ref (ad 8 0 0)), some (.ref (ad 1 0 l)), some (.int (nI (i + 1))), some (.ref (ad 3 0 i))]) rfl (nI_1 i) (by decide) rfl rfl dX1_lowestOffHook_39 ?_
        refine aw_goto (tgt := 2) (by decide) dX1_lowestOffHook_42 ?_
        have e9 : (RT (some (.int (cs_lowF (o.1 0) m l (k + 1) (i)))) o) = (RT (some (.int (cs_lowF (o.1 0) m l (k) (i + 1)))) o) := by first | (simp [cs_lowF, cs_on, mem, q1, b2]; done) | (simp_all [cs_lowF, cs_on, mem, q1, b2]; done)
        rw [e9]
        exact AW.locs (ih (i + 1)  (by omega) ) (lsub_keep (lsub_keep (lsub_keep (lsub_none lsub_nil))))
      · skip
        refine aw_aload_n (x := ad 1 0 l) rfl dX1_lowestOffHook_29 ?_
        refine aw_aload_n (x := ad 3 0 i) rfl dX1_lowestOffHook_30 ?_
        refine aw_rV (v := some (.int (cs_cuts (o.1 0) l i))) (o2 := o) (ct_X3_cutsOff (by decide) hl (by omega)) (mm_fit_of cbX3_cutsOff (by decide) (by decide)) wq565 cvX3_cutsOff (wv1 (by decide) hl) rfl rfl rfl (Nat.le_of_ble_eq_true rfl) (by decide) (by decide) rfl dX1_lowestOffHook_31 ?_
        refine aw_if_ne (tgt := 39) (by decide) dX1_lowestOffHook_34 (fun b3 => ?_) (fun b3 => ?_)
        · skip
          refine aw_iinc (n := 1) (x := (nI i)) (v := nI (i + 1)) (L2 := [some (.ref (ad 8 0 0)), some (.ref (ad 1 0 l)), some (.int (nI (i + 1))), some (.ref (ad 3 0 i))]) rfl (nI_1 i) (by decide) rfl rfl dX1_lowestOffHook_39 ?_
          refine aw_goto (tgt := 2) (by decide) dX1_lowestOffHook_42 ?_
          have e9 : (RT (some (.int (cs_lowF (o.1 0) m l (k + 1) (i)))) o) = (RT (some (.int (cs_lowF (o.1 0) m l (k) (i + 1)))) o) := by first | (simp [cs_lowF, cs_on, mem, q1, b2, b3]; done) | (simp_all [cs_lowF, cs_on, mem, q1, b2, b3]; done)
          rw [e9]
          exact AW.locs (ih (i + 1)  (by omega) ) (lsub_keep (lsub_keep (lsub_keep (lsub_none lsub_nil))))
        · skip
          refine aw_iload_n (x := (nI i)) rfl dX1_lowestOffHook_37 ?_
          exact aw_iret rfl (by decide) (by decide) dX1_lowestOffHook_38 ⟨by first | rfl | (simp [cs_lowF, cs_on, mem, q1, b2, b3]; done) | (simp_all [cs_lowF, cs_on, mem, q1, b2, b3]; done), by first | rfl | (simp [cs_lowF, cs_on, mem, q1, b2, b3]; done) | (simp_all [cs_lowF, cs_on, mem, q1, b2, b3]; done)⟩
    · skip
      refine aw_rV (v := some .null) (o2 := o) (ct_X5_memberAt_none G hl (by omega) q1) (mm_fit_of cbX5_memberAt (by decide) (by decide)) wq612 cvX5_memberAt (wv0 (by decide)) rfl rfl rfl (Nat.le_of_ble_eq_true rfl) (by decide) (by decide) rfl dX1_lowestOffHook_14 ?_
      refine aw_astore_nN (L2 := [some (.ref (ad 8 0 0)), some (.ref (ad 1 0 l)), some (.int (nI i)), some (.null)]) (by decide) rfl rfl dX1_lowestOffHook_17 ?_
      refine aw_aload_nN rfl dX1_lowestOffHook_18 ?_
      refine aw_ifnullN (tgt := 39) (by decide) dX1_lowestOffHook_19 ?_
      refine aw_iinc (n := 1) (x := (nI i)) (v := nI (i + 1)) (L2 := [some (.ref (ad 8 0 0)), some (.ref (ad 1 0 l)), some (.int (nI (i + 1))), some (.null)]) rfl (nI_1 i) (by decide) rfl rfl dX1_lowestOffHook_39 ?_
      refine aw_goto (tgt := 2) (by decide) dX1_lowestOffHook_42 ?_
      have e9 : (RT (some (.int (cs_lowF (o.1 0) m l (k + 1) (i)))) o) = (RT (some (.int (cs_lowF (o.1 0) m l (k) (i + 1)))) o) := by first | (simp [cs_lowF, cs_on, mem, q1]; done) | (simp_all [cs_lowF, cs_on, mem, q1]; done)
      rw [e9]
      exact AW.locs (ih (i + 1)  (by omega) ) (lsub_keep (lsub_keep (lsub_keep (lsub_none lsub_nil))))
theorem ct_X1_low {ad : Nat → Nat → Nat → Nat} {o : wd_S} {n m l : Nat} (G : cg (o.1 0) n m) (hl : l < 5) : CT ad MX1_lowestOffHook [.ref (ad 8 0 0), .ref (ad 1 0 l)] o (RT (some (.int (cs_low (o.1 0) m l))) o) := by
  refine CT.of (L := [some (.ref (ad 8 0 0)), some (.ref (ad 1 0 l)), none, none]) rfl rfl (by decide) (Nat.le_of_ble_eq_true rfl) rfl ?_
  refine aw_iconst (v := 0) (by decide) dX1_lowestOffHook_0 ?_
  refine aw_istore_n (L2 := [some (.ref (ad 8 0 0)), some (.ref (ad 1 0 l)), some (.int 0), none]) (by decide) rfl rfl dX1_lowestOffHook_1 ?_
  exact AW.post (AW.locs (lp_X1_low G hl 16 0 (by decide)) (lsub_keep (lsub_keep (lsub_keep (lsub_keep lsub_nil))))) (fun r o2 q => by simpa [cs_low] using q)
def cs_unl (m l : Nat) : Nat → Nat → (Nat → Int32) → Nat → Int32
  | 0, _, B => B
  | k + 1, i, B => cs_unl m l k (i + 1) (if mem B m l i then upd B (101 + 8 * i + 7) 0 else B)
theorem cg_l7 {B : Nat → Int32} {n m i : Nat} {v : Int32} (G : cg B n m) : cg (upd B (101 + 8 * i + 7) v) n m := cg_upd G (by omega) (by omega) (fun _ _ => ⟨by omega, by omega⟩)
theorem cg_unl {n m l : Nat} : ∀ (k i : Nat) (B : Nat → Int32), cg B n m → cg (cs_unl m l k i B) n m
  | 0, _, _, G => G
  | k + 1, i, B, G => by
    unfold cs_unl
    split
    · exact cg_unl k (i + 1) _ (cg_l7 G)
    · exact cg_unl k (i + 1) _ G
theorem unl_hi {m l : Nat} : ∀ (k i : Nat) (B : Nat → Int32) (x : Nat), (∀ s, x ≠ 101 + 8 * s + 7) → cs_unl m l k i B x = B x
  | 0, _, _, _, _ => rfl
  | k + 1, i, B, x, h => by
    unfold cs_unl
    rw [unl_hi k (i + 1) _ x h]
    split
    · exact upd_ne _ _ (h i)
    · rfl
def cs_leave (B : Nat → Int32) (m l : Nat) : Nat → Int32 := cs_cw (cs_unl m l 16 0 B) l (if cs_low (cs_unl m l 16 0 B) m l = -1 then 0 else 5) (cs_low (cs_unl m l 16 0 B) m l)
theorem cg_leave {B : Nat → Int32} {n m l : Nat} (G : cg B n m) (hl : l < 5) : cg (cs_leave B m l) n m := cg_cw (cg_unl 16 0 B G) hl
theorem leave_hi {B : Nat → Int32} {m l x : Nat} (h1 : ∀ k, 1 ≤ k → k ≤ 6 → x ≠ 20 * l + k) (h2 : ∀ s, x ≠ 101 + 8 * s + 7) : cs_leave B m l x = B x := by
  unfold cs_leave
  rw [cw_hi h1, unl_hi _ _ _ _ h2]
theorem tl_X1_leave {ad : Nat → Nat → Nat → Nat} {o : wd_S} {n m l : Nat} (G : cg (o.1 0) n m) (hl : l < 5) : AW ad MX1_leave 33 [some (.ref (ad 8 0 0)), some (.ref (ad 1 0 l)), none, none] [] o 0 0 (RT none (wd_row o 0 (cs_cw (o.1 0) l (if cs_low (o.1 0) m l = -1 then 0 else 5) (cs_low (o.1 0) m l)))) := by
  obtain ⟨g1, g2, g3, g4, g5, g6⟩ := id G
  refine aw_aload_n (x := ad 8 0 0) rfl dX1_leave_33 ?_
  refine aw_aload_n (x := ad 1 0 l) rfl dX1_leave_34 ?_
  refine aw_rV (As := [.ref (ad 1 0 l)]) (S := []) (v := some (.int (cs_low (o.1 0) m l))) (o2 := o) (ct_X1_low G hl) (mm_fit_of cbX1_lowestOffHook (by decide) (by decide)) wq608 cvX1_lowestOffHook wv8 rfl rfl rfl (Nat.le_of_ble_eq_true rfl) (by decide) (by decide) rfl dX1_leave_35 ?_
  refine aw_istore_n (L2 := [some (.ref (ad 8 0 0)), some (.ref (ad 1 0 l)), some (.int (cs_low (o.1 0) m l)), none]) (by decide) rfl rfl dX1_leave_38 ?_
  refine aw_aload_n (x := ad 1 0 l) rfl dX1_leave_39 ?_
  refine aw_iload_n (x := (cs_low (o.1 0) m l)) rfl dX1_leave_40 ?_
  refine aw_iconst (v := (-1)) (by decide) dX1_leave_41 ?_
  refine aw_icmp_ne (tgt := 49) (by decide) dX1_leave_42 (fun b1 => ?_) (fun b1 => ?_)
  · skip
    refine aw_iconst (v := 5) (by decide) dX1_leave_49 ?_
    refine aw_iload_n (x := (cs_low (o.1 0) m l)) rfl dX1_leave_50 ?_
    refine aw_rV (As := [.int 5, .int (cs_low (o.1 0) m l)]) (S := []) (v := none) (o2 := (wd_row o 0 (cs_cw (o.1 0) l 5 (cs_low (o.1 0) m l)))) (ct_X3_comeToWith (by decide) (by omega)) (mm_fit_of cbX3_comeToWith (by decide) (by decide)) wq566 cvX3_comeToWith (wv1 (by decide) hl) rfl rfl rfl (Nat.le_of_ble_eq_true rfl) (by decide) (by decide) rfl dX1_leave_51 ?_
    obtain ⟨o1, ho1⟩ : ∃ z, z = (wd_row o 0 (cs_cw (o.1 0) l 5 (cs_low (o.1 0) m l))) := ⟨_, rfl⟩
    rw [← ho1]
    have Go1 : cg (o1.1 0) n m := by rw [ho1]; rw [row_self]; exact cg_cw G (by omega)
    exact aw_vret rfl (by decide) (by decide) dX1_leave_54 ⟨rfl, by (subst ho1; first | with_reducible rfl | (simp [cs_cw, wd_w_row, row_self, row_row, b1]; done) | (simp_all [cs_cw, wd_w_row, row_self, row_row, b1]; done))⟩
  · skip
    refine aw_iconst (v := 0) (by decide) dX1_leave_45 ?_
    refine aw_goto (tgt := 50) (by decide) dX1_leave_46 ?_
    refine aw_iload_n (x := (cs_low (o.1 0) m l)) rfl dX1_leave_50 ?_
    refine aw_rV (As := [.int 0, .int (cs_low (o.1 0) m l)]) (S := []) (v := none) (o2 := (wd_row o 0 (cs_cw (o.1 0) l 0 (cs_low (o.1 0) m l)))) (ct_X3_comeToWith (by decide) (by omega)) (mm_fit_of cbX3_comeToWith (by decide) (by decide)) wq566 cvX3_comeToWith (wv1 (by decide) hl) rfl rfl rfl (Nat.le_of_ble_eq_true rfl) (by decide) (by decide) rfl dX1_leave_51 ?_
    obtain ⟨o2, ho2⟩ : ∃ z, z = (wd_row o 0 (cs_cw (o.1 0) l 0 (cs_low (o.1 0) m l))) := ⟨_, rfl⟩
    rw [← ho2]
    have Go2 : cg (o2.1 0) n m := by rw [ho2]; rw [row_self]; exact cg_cw G (by omega)
    exact aw_vret rfl (by decide) (by decide) dX1_leave_54 ⟨rfl, by (subst ho2; first | with_reducible rfl | (simp [cs_cw, wd_w_row, row_self, row_row, b1]; done) | (simp_all [cs_cw, wd_w_row, row_self, row_row, b1]; done))⟩
theorem lp_X1_leave {ad : Nat → Nat → Nat → Nat} {n m l : Nat} (hl : l < 5) : ∀ (k i : Nat) (o : wd_S) , i + k = 16 → (cg (o.1 0) n m) → AW ad MX1_leave 2 [some (.ref (ad 8 0 0)), some (.ref (ad 1 0 l)), some (.int (nI i)), none] [] o 0 0 (RT none (wd_row o 0 (cs_cw (cs_unl m l (k) (i) (o.1 0)) l (if cs_low (cs_unl m l (k) (i) (o.1 0)) m l = -1 then 0 else 5) (cs_low (cs_unl m l (k) (i) (o.1 0)) m l)))) := by
  intro k
  induction k with
  | zero =>
    intro i o hk G
    have hi : i = 16 := by omega
    subst hi
    have g4 := G.2.2.2.1
    refine aw_iload_n (x := (nI 16)) rfl dX1_leave_2 ?_
    refine aw_bipush (v := 16) (by decide) dX1_leave_3 ?_
    refine aw_icmp_ge (tgt := 33) (by decide) dX1_leave_5 (fun _ => ?_) (fun z => absurd (by decide) z)
    exact AW.post (AW.locs (tl_X1_leave G hl) (lsub_keep (lsub_keep (lsub_none (lsub_keep lsub_nil))))) (fun r o2 q => by first | exact q | simpa [cs_unl] using q)
  | succ k ih =>
    intro i o hk G
    have hi : i < 16 := by omega
    have g4 := G.2.2.2.1
    refine aw_iload_n (x := (nI i)) rfl dX1_leave_2 ?_
    refine aw_bipush (v := 16) (by decide) dX1_leave_3 ?_
    refine aw_icmp_ge (tgt := 33) (by decide) dX1_leave_5 (fun z => absurd z (nI_ge (b := 16) hi (by decide))) (fun _ => ?_)
    refine aw_aload_n (x := ad 8 0 0) rfl dX1_leave_8 ?_
    refine aw_getr (q := (0, 0, 0)) wv8 rfl flX1_9 rfl rfl dX1_leave_9 ?_
    refine aw_aload_n (x := ad 1 0 l) rfl dX1_leave_12 ?_
    refine aw_iload_n (x := (nI i)) rfl dX1_leave_13 ?_
    by_cases q1 : mem (o.1 0) m l i
    · skip
      refine aw_rV (v := some (.ref (ad 3 0 i))) (o2 := o) (ct_X5_memberAt_some G hl q1) (mm_fit_of cbX5_memberAt (by decide) (by decide)) wq612 cvX5_memberAt (wv0 (by decide)) rfl rfl rfl (Nat.le_of_ble_eq_true rfl) (by decide) (by decide) rfl dX1_leave_14 ?_
      refine aw_astore_n (L2 := [some (.ref (ad 8 0 0)), some (.ref (ad 1 0 l)), some (.int (nI i)), some (.ref (ad 3 0 i))]) (by decide) rfl rfl dX1_leave_17 ?_
      refine aw_aload_n (x := ad 3 0 i) rfl dX1_leave_18 ?_
      refine aw_ifnull dX1_leave_19 ?_
      refine aw_aload_n (x := ad 3 0 i) rfl dX1_leave_22 ?_
      refine aw_iconst (v := 0) (by decide) dX1_leave_23 ?_
      refine aw_putz (q := (0, 101 + 8 * i + 7)) (by decide) (wv3 (by decide) (by omega)) rfl fwX1_81 rfl rfl dX1_leave_24 ?_
      refine aw_iinc (n := 1) (x := (nI i)) (v := nI (i + 1)) (L2 := [some (.ref (ad 8 0 0)), some (.ref (ad 1 0 l)), some (.int (nI (i + 1))), some (.ref (ad 3 0 i))]) rfl (nI_1 i) (by decide) rfl rfl dX1_leave_27 ?_
      refine aw_goto (tgt := 2) (by decide) dX1_leave_30 ?_
      have e9 : (RT none (wd_row o 0 (cs_cw (cs_unl m l (k + 1) (i) (o.1 0)) l (if cs_low (cs_unl m l (k + 1) (i) (o.1 0)) m l = -1 then 0 else 5) (cs_low (cs_unl m l (k + 1) (i) (o.1 0)) m l)))) = (RT none (wd_row (wd_w o 0 (101 + 8 * i + 7) 0) 0 (cs_cw (cs_unl m l (k) (i + 1) ((wd_w o 0 (101 + 8 * i + 7) 0).1 0)) l (if cs_low (cs_unl m l (k) (i + 1) ((wd_w o 0 (101 + 8 * i + 7) 0).1 0)) m l = -1 then 0 else 5) (cs_low (cs_unl m l (k) (i + 1) ((wd_w o 0 (101 + 8 * i + 7) 0).1 0)) m l)))) := by first | (simp [cs_unl, wd_w_row, row_self, row_row, mem, q1]; done) | (simp_all [cs_unl, wd_w_row, row_self, row_row, mem, q1]; done)
      rw [e9]
      exact AW.locs (ih (i + 1) (wd_w o 0 (101 + 8 * i + 7) 0)  (by omega) (by (try simp only [wd_w_row, row_self]); first | exact cg_l7 G | exact G)) (lsub_keep (lsub_keep (lsub_keep (lsub_none lsub_nil))))
    · skip
      refine aw_rV (v := some .null) (o2 := o) (ct_X5_memberAt_none G hl (by omega) q1) (mm_fit_of cbX5_memberAt (by decide) (by decide)) wq612 cvX5_memberAt (wv0 (by decide)) rfl rfl rfl (Nat.le_of_ble_eq_true rfl) (by decide) (by decide) rfl dX1_leave_14 ?_
      refine aw_astore_nN (L2 := [some (.ref (ad 8 0 0)), some (.ref (ad 1 0 l)), some (.int (nI i)), some (.null)]) (by decide) rfl rfl dX1_leave_17 ?_
      refine aw_aload_nN rfl dX1_leave_18 ?_
      refine aw_ifnullN (tgt := 27) (by decide) dX1_leave_19 ?_
      refine aw_iinc (n := 1) (x := (nI i)) (v := nI (i + 1)) (L2 := [some (.ref (ad 8 0 0)), some (.ref (ad 1 0 l)), some (.int (nI (i + 1))), some (.null)]) rfl (nI_1 i) (by decide) rfl rfl dX1_leave_27 ?_
      refine aw_goto (tgt := 2) (by decide) dX1_leave_30 ?_
      have e9 : (RT none (wd_row o 0 (cs_cw (cs_unl m l (k + 1) (i) (o.1 0)) l (if cs_low (cs_unl m l (k + 1) (i) (o.1 0)) m l = -1 then 0 else 5) (cs_low (cs_unl m l (k + 1) (i) (o.1 0)) m l)))) = (RT none (wd_row o 0 (cs_cw (cs_unl m l (k) (i + 1) (o.1 0)) l (if cs_low (cs_unl m l (k) (i + 1) (o.1 0)) m l = -1 then 0 else 5) (cs_low (cs_unl m l (k) (i + 1) (o.1 0)) m l)))) := by first | (simp [cs_unl, wd_w_row, row_self, row_row, mem, q1]; done) | (simp_all [cs_unl, wd_w_row, row_self, row_row, mem, q1]; done)
      rw [e9]
      exact AW.locs (ih (i + 1) o  (by omega) (by (try simp only [wd_w_row, row_self]); first | exact cg_l7 G | exact G)) (lsub_keep (lsub_keep (lsub_keep (lsub_none lsub_nil))))
theorem ct_X1_leave {ad : Nat → Nat → Nat → Nat} {o : wd_S} {n m l : Nat} (G : cg (o.1 0) n m) (hl : l < 5) : CT ad MX1_leave [.ref (ad 8 0 0), .ref (ad 1 0 l)] o (RT none (wd_row o 0 (cs_leave (o.1 0) m l))) := by
  refine CT.of (L := [some (.ref (ad 8 0 0)), some (.ref (ad 1 0 l)), none, none]) rfl rfl (by decide) (Nat.le_of_ble_eq_true rfl) rfl ?_
  refine aw_iconst (v := 0) (by decide) dX1_leave_0 ?_
  refine aw_istore_n (L2 := [some (.ref (ad 8 0 0)), some (.ref (ad 1 0 l)), some (.int 0), none]) (by decide) rfl rfl dX1_leave_1 ?_
  exact AW.post (AW.locs (lp_X1_leave hl 16 0 o (by decide) G) (lsub_keep (lsub_keep (lsub_keep (lsub_keep lsub_nil))))) (fun r o2 q => by simpa [cs_leave] using q)
def cs_far (B : Nat → Int32) (n l : Nat) : Nat → Int32 := match lk n (B (20 * l + 5)) with
  | none => B
  | some e => cs_comeTo B e (if B (20 * e + 1) = 3 then 0 else 5)
def cs_end (B : Nat → Int32) (n m l : Nat) : Nat → Int32 := cs_leave (cs_far B n l) m l
theorem far_hi {B : Nat → Int32} {n l x : Nat} (hn : n ≤ 5) (h : 100 < x ∨ x = 0) : cs_far B n l x = B x := by
  cases he : lk n (B (20 * l + 5)) with
  | none => simp [cs_far, he]
  | some e =>
    have := (lk_some he).2
    simp only [cs_far, he]
    exact comeTo_hi (by omega)
theorem cg_far {B : Nat → Int32} {n m l : Nat} (G : cg B n m) : cg (cs_far B n l) n m := by
  cases he : lk n (B (20 * l + 5)) with
  | none => simp only [cs_far, he]; exact G
  | some e =>
    have := (lk_some he).2
    simp only [cs_far, he]
    exact cg_comeTo G (by have := G.2.1; omega)
theorem cg_end {B : Nat → Int32} {n m l : Nat} (G : cg B n m) (hl : l < 5) : cg (cs_end B n m l) n m := cg_leave (cg_far G) hl
theorem end_hi {B : Nat → Int32} {n m l x : Nat} (hn : n ≤ 5) (hl : l < 5) (h : 100 < x ∨ x = 0) (h2 : ∀ s, x ≠ 101 + 8 * s + 7) : cs_end B n m l x = B x := by
  unfold cs_end
  rw [leave_hi (by omega) h2, far_hi hn h]
theorem ct_X1_endCall {ad : Nat → Nat → Nat → Nat} {o : wd_S} {n m l : Nat} (G : cg (o.1 0) n m) (hl : l < 5) : CT ad MX1_endCall [.ref (ad 8 0 0), .ref (ad 1 0 l)] o (RT none (wd_row o 0 (cs_end (o.1 0) n m l))) := by
  obtain ⟨g1, g2, g3, g4, g5, g6⟩ := id G
  refine CT.of (L := [some (.ref (ad 8 0 0)), some (.ref (ad 1 0 l)), none]) rfl rfl (by decide) (Nat.le_of_ble_eq_true rfl) rfl ?_
  refine aw_aload_n (x := ad 8 0 0) rfl dX1_endCall_0 ?_
  refine aw_getr (q := (0, 0, 0)) wv8 rfl flX1_9 rfl rfl dX1_endCall_1 ?_
  refine aw_aload_n (x := ad 1 0 l) rfl dX1_endCall_4 ?_
  refine aw_geti (q := (0, 20 * l + 5)) (x := o.1 0 (20 * l + 5)) (wv1 (by decide) hl) rfl rfl flX1_60 rfl (Or.inl rfl) dX1_endCall_5 ?_
  rcases k1 : lk n (o.1 0 (20 * l + 5)) with _ | e1
  · skip
    refine aw_rV (As := [.int (o.1 0 (20 * l + 5))]) (S := []) (v := some (.null)) (o2 := o) (ct_X5_loopAt_none (lk_none G.1 (by have := G.2.1; have := G.2.2.2.1; omega) k1)) (mm_fit_of cbX5_loopAt (by decide) (by decide)) wq564 cvX5_loopAt (wv0 (by decide)) rfl rfl rfl (Nat.le_of_ble_eq_true rfl) (by decide) (by decide) rfl dX1_endCall_8 ?_
    refine aw_astore_nN (L2 := [some (.ref (ad 8 0 0)), some (.ref (ad 1 0 l)), some (.null)]) (by decide) rfl rfl dX1_endCall_11 ?_
    refine aw_aload_nN rfl dX1_endCall_12 ?_
    refine aw_ifnullN (tgt := 33) (by decide) dX1_endCall_13 ?_
    refine aw_aload_n (x := ad 8 0 0) rfl dX1_endCall_33 ?_
    refine aw_aload_n (x := ad 1 0 l) rfl dX1_endCall_34 ?_
    refine aw_rV (As := [.ref (ad 1 0 l)]) (S := []) (v := none) (o2 := (wd_row o 0 (cs_leave (o.1 0) m l))) (ct_X1_leave G (by omega)) (mm_fit_of cbX1_leave (by decide) (by decide)) wq617 cvX1_leave wv8 rfl rfl rfl (Nat.le_of_ble_eq_true rfl) (by decide) (by decide) rfl dX1_endCall_35 ?_
    obtain ⟨o1, ho1⟩ : ∃ z, z = (wd_row o 0 (cs_leave (o.1 0) m l)) := ⟨_, rfl⟩
    rw [← ho1]
    have Go1 : cg (o1.1 0) n m := by rw [ho1]; rw [row_self]; exact cg_leave G (by omega)
    exact aw_vret rfl (by decide) (by decide) dX1_endCall_38 ⟨rfl, by (subst ho1; first | with_reducible rfl | (simp [cs_end, cs_far, wd_w_row, row_self, row_row, k1]; done) | (simp_all [cs_end, cs_far, wd_w_row, row_self, row_row, k1]; done))⟩
  · skip
    obtain ⟨k1e, k1l⟩ := lk_some k1
    have k1b : e1 < 5 := by have := G.2.1; have := G.2.2.2.1; omega
    refine aw_rV (As := [.int (o.1 0 (20 * l + 5))]) (S := []) (v := some (.ref (ad 1 0 e1))) (o2 := o) (by rw [k1e]; exact ct_X5_loopAt_some G k1l) (mm_fit_of cbX5_loopAt (by decide) (by decide)) wq564 cvX5_loopAt (wv0 (by decide)) rfl rfl rfl (Nat.le_of_ble_eq_true rfl) (by decide) (by decide) rfl dX1_endCall_8 ?_
    refine aw_astore_n (L2 := [some (.ref (ad 8 0 0)), some (.ref (ad 1 0 l)), some (.ref (ad 1 0 e1))]) (by decide) rfl rfl dX1_endCall_11 ?_
    refine aw_aload_n (x := ad 1 0 e1) rfl dX1_endCall_12 ?_
    refine aw_ifnull dX1_endCall_13 ?_
    refine aw_aload_n (x := ad 1 0 e1) rfl dX1_endCall_16 ?_
    refine aw_aload_n (x := ad 1 0 e1) rfl dX1_endCall_17 ?_
    refine aw_geti (q := (0, 20 * e1 + 1)) (x := o.1 0 (20 * e1 + 1)) (wv1 (by decide) k1b) rfl rfl flX1_37 rfl (Or.inl rfl) dX1_endCall_18 ?_
    refine aw_iconst (v := 3) (by decide) dX1_endCall_21 ?_
    refine aw_icmp_ne (tgt := 29) (by decide) dX1_endCall_22 (fun b2 => ?_) (fun b2 => ?_)
    · skip
      refine aw_iconst (v := 5) (by decide) dX1_endCall_29 ?_
      refine aw_rV (As := [.int 5]) (S := []) (v := none) (o2 := (wd_row o 0 (cs_comeTo (o.1 0) e1 5))) (ct_X3_comeTo (by decide) (by omega)) (mm_fit_of cbX3_comeTo (by decide) (by decide)) wq574 cvX3_comeTo (wv1 (by decide) k1b) rfl rfl rfl (Nat.le_of_ble_eq_true rfl) (by decide) (by decide) rfl dX1_endCall_30 ?_
      obtain ⟨o2, ho2⟩ : ∃ z, z = (wd_row o 0 (cs_comeTo (o.1 0) e1 5)) := ⟨_, rfl⟩
      rw [← ho2]
      have Go2 : cg (o2.1 0) n m := by rw [ho2]; rw [row_self]; exact cg_comeTo G (by omega)
      refine aw_aload_n (x := ad 8 0 0) rfl dX1_endCall_33 ?_
      refine aw_aload_n (x := ad 1 0 l) rfl dX1_endCall_34 ?_
      refine aw_rV (As := [.ref (ad 1 0 l)]) (S := []) (v := none) (o2 := (wd_row o2 0 (cs_leave (o2.1 0) m l))) (ct_X1_leave Go2 (by omega)) (mm_fit_of cbX1_leave (by decide) (by decide)) wq617 cvX1_leave wv8 rfl rfl rfl (Nat.le_of_ble_eq_true rfl) (by decide) (by decide) rfl dX1_endCall_35 ?_
      obtain ⟨o3, ho3⟩ : ∃ z, z = (wd_row o2 0 (cs_leave (o2.1 0) m l)) := ⟨_, rfl⟩
      rw [← ho3]
      have Go3 : cg (o3.1 0) n m := by rw [ho3]; rw [row_self]; exact cg_leave Go2 (by omega)
      exact aw_vret rfl (by decide) (by decide) dX1_endCall_38 ⟨rfl, by (subst ho3; subst ho2; first | with_reducible rfl | (simp [cs_end, cs_far, wd_w_row, row_self, row_row, k1, b2]; done) | (simp_all [cs_end, cs_far, wd_w_row, row_self, row_row, k1, b2]; done))⟩
    · skip
      refine aw_iconst (v := 0) (by decide) dX1_endCall_25 ?_
      refine aw_goto (tgt := 30) (by decide) dX1_endCall_26 ?_
      refine aw_rV (As := [.int 0]) (S := []) (v := none) (o2 := (wd_row o 0 (cs_comeTo (o.1 0) e1 0))) (ct_X3_comeTo (by decide) (by omega)) (mm_fit_of cbX3_comeTo (by decide) (by decide)) wq574 cvX3_comeTo (wv1 (by decide) k1b) rfl rfl rfl (Nat.le_of_ble_eq_true rfl) (by decide) (by decide) rfl dX1_endCall_30 ?_
      obtain ⟨o4, ho4⟩ : ∃ z, z = (wd_row o 0 (cs_comeTo (o.1 0) e1 0)) := ⟨_, rfl⟩
      rw [← ho4]
      have Go4 : cg (o4.1 0) n m := by rw [ho4]; rw [row_self]; exact cg_comeTo G (by omega)
      refine aw_aload_n (x := ad 8 0 0) rfl dX1_endCall_33 ?_
      refine aw_aload_n (x := ad 1 0 l) rfl dX1_endCall_34 ?_
      refine aw_rV (As := [.ref (ad 1 0 l)]) (S := []) (v := none) (o2 := (wd_row o4 0 (cs_leave (o4.1 0) m l))) (ct_X1_leave Go4 (by omega)) (mm_fit_of cbX1_leave (by decide) (by decide)) wq617 cvX1_leave wv8 rfl rfl rfl (Nat.le_of_ble_eq_true rfl) (by decide) (by decide) rfl dX1_endCall_35 ?_
      obtain ⟨o5, ho5⟩ : ∃ z, z = (wd_row o4 0 (cs_leave (o4.1 0) m l)) := ⟨_, rfl⟩
      rw [← ho5]
      have Go5 : cg (o5.1 0) n m := by rw [ho5]; rw [row_self]; exact cg_leave Go4 (by omega)
      exact aw_vret rfl (by decide) (by decide) dX1_endCall_38 ⟨rfl, by (subst ho5; subst ho4; first | with_reducible rfl | (simp [cs_end, cs_far, wd_w_row, row_self, row_row, k1, b2]; done) | (simp_all [cs_end, cs_far, wd_w_row, row_self, row_row, k1, b2]; done))⟩
def cs_wants (B : Nat → Int32) (m : Nat) (x : Int32) : Int32 := match lk m x with
  | none => 0
  | some e => if B (101 + 8 * e + 4) = 0 then 0 else 1
def cs_ptalk (B : Nat → Int32) (m l : Nat) : Int32 := if B (20 * l + 1) = 4 then (if cs_wants B m (B (20 * l + 3)) = 0 then (if cs_wants B m (B (20 * l + 4)) = 0 then 0 else 1) else 1) else if B (20 * l + 1) = 8 then (if cs_wants B m (B (20 * l + 3)) = 0 then (if cs_wants B m (B (20 * l + 4)) = 0 then 0 else 1) else 1) else 0
theorem ct_X1_wants {ad : Nat → Nat → Nat → Nat} {o : wd_S} {n m : Nat} {x : Int32} (G : cg (o.1 0) n m) : CT ad MX1_wantsPrivacy [.ref (ad 8 0 0), .int x] o (RT (some (.int (cs_wants (o.1 0) m x))) o) := by
  obtain ⟨g1, g2, g3, g4, g5, g6⟩ := id G
  refine CT.of (L := [some (.ref (ad 8 0 0)), some (.int x), none]) rfl rfl (by decide) (Nat.le_of_ble_eq_true rfl) rfl ?_
  refine aw_aload_n (x := ad 8 0 0) rfl dX1_wantsPrivacy_0 ?_
  refine aw_getr (q := (0, 0, 0)) wv8 rfl flX1_9 rfl rfl dX1_wantsPrivacy_1 ?_
  refine aw_iload_n (x := x) rfl dX1_wantsPrivacy_4 ?_
  rcases k1 : lk m x with _ | e1
  · skip
    refine aw_rV (As := [.int x]) (S := []) (v := some (.null)) (o2 := o) (ct_X5_subscriberAt_none (lk_none G.2.2.1 (by have := G.2.1; have := G.2.2.2.1; omega) k1)) (mm_fit_of cbX5_subscriberAt (by decide) (by decide)) wq299 cvX5_subscriberAt (wv0 (by decide)) rfl rfl rfl (Nat.le_of_ble_eq_true rfl) (by decide) (by decide) rfl dX1_wantsPrivacy_5 ?_
    refine aw_astore_nN (L2 := [some (.ref (ad 8 0 0)), some (.int x), some (.null)]) (by decide) rfl rfl dX1_wantsPrivacy_8 ?_
    refine aw_aload_nN rfl dX1_wantsPrivacy_9 ?_
    refine aw_ifnullN (tgt := 24) (by decide) dX1_wantsPrivacy_10 ?_
    refine aw_iconst (v := 0) (by decide) dX1_wantsPrivacy_24 ?_
    exact aw_zret rfl (by decide) (by decide) (by decide) dX1_wantsPrivacy_25 ⟨by (first | with_reducible rfl | (simp [cs_wants, wd_w_row, row_self, row_row, k1]; done) | (simp_all [cs_wants, wd_w_row, row_self, row_row, k1]; done)), by (first | with_reducible rfl | (simp [cs_wants, wd_w_row, row_self, row_row, k1]; done) | (simp_all [cs_wants, wd_w_row, row_self, row_row, k1]; done))⟩
  · skip
    obtain ⟨k1e, k1l⟩ := lk_some k1
    have k1b : e1 < 16 := by have := G.2.1; have := G.2.2.2.1; omega
    refine aw_rV (As := [.int x]) (S := []) (v := some (.ref (ad 3 0 e1))) (o2 := o) (by rw [k1e]; exact ct_X5_subscriberAt_some G k1l) (mm_fit_of cbX5_subscriberAt (by decide) (by decide)) wq299 cvX5_subscriberAt (wv0 (by decide)) rfl rfl rfl (Nat.le_of_ble_eq_true rfl) (by decide) (by decide) rfl dX1_wantsPrivacy_5 ?_
    refine aw_astore_n (L2 := [some (.ref (ad 8 0 0)), some (.int x), some (.ref (ad 3 0 e1))]) (by decide) rfl rfl dX1_wantsPrivacy_8 ?_
    refine aw_aload_n (x := ad 3 0 e1) rfl dX1_wantsPrivacy_9 ?_
    refine aw_ifnull dX1_wantsPrivacy_10 ?_
    refine aw_aload_n (x := ad 3 0 e1) rfl dX1_wantsPrivacy_13 ?_
    refine aw_geti (q := (0, 101 + 8 * e1 + 4)) (x := o.1 0 (101 + 8 * e1 + 4)) (wv3 (by decide) k1b) rfl rfl flX1_92 rfl (Or.inr rfl) dX1_wantsPrivacy_14 ?_
    refine aw_if_eq (tgt := 24) (by decide) dX1_wantsPrivacy_17 (fun b2 => ?_) (fun b2 => ?_)
    · skip
      refine aw_iconst (v := 0) (by decide) dX1_wantsPrivacy_24 ?_
      exact aw_zret rfl (by decide) (by decide) (by decide) dX1_wantsPrivacy_25 ⟨by (first | with_reducible rfl | (simp [cs_wants, wd_w_row, row_self, row_row, k1, b2]; done) | (simp_all [cs_wants, wd_w_row, row_self, row_row, k1, b2]; done)), by (first | with_reducible rfl | (simp [cs_wants, wd_w_row, row_self, row_row, k1, b2]; done) | (simp_all [cs_wants, wd_w_row, row_self, row_row, k1, b2]; done))⟩
    · skip
      refine aw_iconst (v := 1) (by decide) dX1_wantsPrivacy_20 ?_
      refine aw_goto (tgt := 25) (by decide) dX1_wantsPrivacy_21 ?_
      exact aw_zret rfl (by decide) (by decide) (by decide) dX1_wantsPrivacy_25 ⟨by (first | with_reducible rfl | (simp [cs_wants, wd_w_row, row_self, row_row, k1, b2]; done) | (simp_all [cs_wants, wd_w_row, row_self, row_row, k1, b2]; done)), by (first | with_reducible rfl | (simp [cs_wants, wd_w_row, row_self, row_row, k1, b2]; done) | (simp_all [cs_wants, wd_w_row, row_self, row_row, k1, b2]; done))⟩
theorem ct_X1_ptalk {ad : Nat → Nat → Nat → Nat} {o : wd_S} {n m l : Nat} (G : cg (o.1 0) n m) (hl : l < 5) : CT ad MX1_isPrivateTalk [.ref (ad 8 0 0), .ref (ad 1 0 l)] o (RT (some (.int (cs_ptalk (o.1 0) m l))) o) := by
  obtain ⟨g1, g2, g3, g4, g5, g6⟩ := id G
  refine CT.of (L := [some (.ref (ad 8 0 0)), some (.ref (ad 1 0 l))]) rfl rfl (by decide) (Nat.le_of_ble_eq_true rfl) rfl ?_
  refine aw_aload_n (x := ad 1 0 l) rfl dX1_isPrivateTalk_0 ?_
  refine aw_geti (q := (0, 20 * l + 1)) (x := o.1 0 (20 * l + 1)) (wv1 (by decide) hl) rfl rfl flX1_37 rfl (Or.inl rfl) dX1_isPrivateTalk_1 ?_
  refine aw_iconst (v := 4) (by decide) dX1_isPrivateTalk_4 ?_
  refine aw_icmp_eq (tgt := 19) (by decide) dX1_isPrivateTalk_5 (fun b1 => ?_) (fun b1 => ?_)
  · skip
    refine aw_aload_n (x := ad 8 0 0) rfl dX1_isPrivateTalk_19 ?_
    refine aw_aload_n (x := ad 1 0 l) rfl dX1_isPrivateTalk_20 ?_
    refine aw_geti (q := (0, 20 * l + 3)) (x := o.1 0 (20 * l + 3)) (wv1 (by decide) hl) rfl rfl flX1_54 rfl (Or.inl rfl) dX1_isPrivateTalk_21 ?_
    refine aw_rV (As := [.int (o.1 0 (20 * l + 3))]) (S := []) (v := some (.int (cs_wants (o.1 0) m (o.1 0 (20 * l + 3))))) (o2 := o) (ct_X1_wants G) (mm_fit_of cbX1_wantsPrivacy (by decide) (by decide)) wq587 cvX1_wantsPrivacy wv8 rfl rfl rfl (Nat.le_of_ble_eq_true rfl) (by decide) (by decide) rfl dX1_isPrivateTalk_24 ?_
    refine aw_if_ne (tgt := 41) (by decide) dX1_isPrivateTalk_27 (fun b2 => ?_) (fun b2 => ?_)
    · skip
      refine aw_iconst (v := 1) (by decide) dX1_isPrivateTalk_41 ?_
      refine aw_goto (tgt := 46) (by decide) dX1_isPrivateTalk_42 ?_
      exact aw_zret rfl (by decide) (by decide) (by decide) dX1_isPrivateTalk_46 ⟨by (first | with_reducible rfl | (simp [cs_ptalk, wd_w_row, row_self, row_row, b1, b2]; done) | (simp_all [cs_ptalk, wd_w_row, row_self, row_row, b1, b2]; done)), by (first | with_reducible rfl | (simp [cs_ptalk, wd_w_row, row_self, row_row, b1, b2]; done) | (simp_all [cs_ptalk, wd_w_row, row_self, row_row, b1, b2]; done))⟩
    · skip
      refine aw_aload_n (x := ad 8 0 0) rfl dX1_isPrivateTalk_30 ?_
      refine aw_aload_n (x := ad 1 0 l) rfl dX1_isPrivateTalk_31 ?_
      refine aw_geti (q := (0, 20 * l + 4)) (x := o.1 0 (20 * l + 4)) (wv1 (by decide) hl) rfl rfl flX1_74 rfl (Or.inl rfl) dX1_isPrivateTalk_32 ?_
      refine aw_rV (As := [.int (o.1 0 (20 * l + 4))]) (S := []) (v := some (.int (cs_wants (o.1 0) m (o.1 0 (20 * l + 4))))) (o2 := o) (ct_X1_wants G) (mm_fit_of cbX1_wantsPrivacy (by decide) (by decide)) wq587 cvX1_wantsPrivacy wv8 rfl rfl rfl (Nat.le_of_ble_eq_true rfl) (by decide) (by decide) rfl dX1_isPrivateTalk_35 ?_
      refine aw_if_eq (tgt := 45) (by decide) dX1_isPrivateTalk_38 (fun b3 => ?_) (fun b3 => ?_)
      · skip
        refine aw_iconst (v := 0) (by decide) dX1_isPrivateTalk_45 ?_
        exact aw_zret rfl (by decide) (by decide) (by decide) dX1_isPrivateTalk_46 ⟨by (first | with_reducible rfl | (simp [cs_ptalk, wd_w_row, row_self, row_row, b1, b2, b3]; done) | (simp_all [cs_ptalk, wd_w_row, row_self, row_row, b1, b2, b3]; done)), by (first | with_reducible rfl | (simp [cs_ptalk, wd_w_row, row_self, row_row, b1, b2, b3]; done) | (simp_all [cs_ptalk, wd_w_row, row_self, row_row, b1, b2, b3]; done))⟩
      · skip
        refine aw_iconst (v := 1) (by decide) dX1_isPrivateTalk_41 ?_
        refine aw_goto (tgt := 46) (by decide) dX1_isPrivateTalk_42 ?_
        exact aw_zret rfl (by decide) (by decide) (by decide) dX1_isPrivateTalk_46 ⟨by (first | with_reducible rfl | (simp [cs_ptalk, wd_w_row, row_self, row_row, b1, b2, b3]; done) | (simp_all [cs_ptalk, wd_w_row, row_self, row_row, b1, b2, b3]; done)), by (first | with_reducible rfl | (simp [cs_ptalk, wd_w_row, row_self, row_row, b1, b2, b3]; done) | (simp_all [cs_ptalk, wd_w_row, row_self, row_row, b1, b2, b3]; done))⟩
  · skip
    refine aw_aload_n (x := ad 1 0 l) rfl dX1_isPrivateTalk_8 ?_
    refine aw_geti (q := (0, 20 * l + 1)) (x := o.1 0 (20 * l + 1)) (wv1 (by decide) hl) rfl rfl flX1_37 rfl (Or.inl rfl) dX1_isPrivateTalk_9 ?_
    refine aw_bipush (v := 8) (by decide) dX1_isPrivateTalk_12 ?_
    refine aw_icmp_eq (tgt := 19) (by decide) dX1_isPrivateTalk_14 (fun b4 => ?_) (fun b4 => ?_)
    · skip
      refine aw_aload_n (x := ad 8 0 0) rfl dX1_isPrivateTalk_19 ?_
      refine aw_aload_n (x := ad 1 0 l) rfl dX1_isPrivateTalk_20 ?_
      refine aw_geti (q := (0, 20 * l + 3)) (x := o.1 0 (20 * l + 3)) (wv1 (by decide) hl) rfl rfl flX1_54 rfl (Or.inl rfl) dX1_isPrivateTalk_21 ?_
      refine aw_rV (As := [.int (o.1 0 (20 * l + 3))]) (S := []) (v := some (.int (cs_wants (o.1 0) m (o.1 0 (20 * l + 3))))) (o2 := o) (ct_X1_wants G) (mm_fit_of cbX1_wantsPrivacy (by decide) (by decide)) wq587 cvX1_wantsPrivacy wv8 rfl rfl rfl (Nat.le_of_ble_eq_true rfl) (by decide) (by decide) rfl dX1_isPrivateTalk_24 ?_
      refine aw_if_ne (tgt := 41) (by decide) dX1_isPrivateTalk_27 (fun b5 => ?_) (fun b5 => ?_)
      · skip
        refine aw_iconst (v := 1) (by decide) dX1_isPrivateTalk_41 ?_
        refine aw_goto (tgt := 46) (by decide) dX1_isPrivateTalk_42 ?_
        exact aw_zret rfl (by decide) (by decide) (by decide) dX1_isPrivateTalk_46 ⟨by (first | with_reducible rfl | (simp [cs_ptalk, wd_w_row, row_self, row_row, b1, b4, b5]; done) | (simp_all [cs_ptalk, wd_w_row, row_self, row_row, b1, b4, b5]; done)), by (first | with_reducible rfl | (simp [cs_ptalk, wd_w_row, row_self, row_row, b1, b4, b5]; done) | (simp_all [cs_ptalk, wd_w_row, row_self, row_row, b1, b4, b5]; done))⟩
      · skip
        refine aw_aload_n (x := ad 8 0 0) rfl dX1_isPrivateTalk_30 ?_
        refine aw_aload_n (x := ad 1 0 l) rfl dX1_isPrivateTalk_31 ?_
        refine aw_geti (q := (0, 20 * l + 4)) (x := o.1 0 (20 * l + 4)) (wv1 (by decide) hl) rfl rfl flX1_74 rfl (Or.inl rfl) dX1_isPrivateTalk_32 ?_
        refine aw_rV (As := [.int (o.1 0 (20 * l + 4))]) (S := []) (v := some (.int (cs_wants (o.1 0) m (o.1 0 (20 * l + 4))))) (o2 := o) (ct_X1_wants G) (mm_fit_of cbX1_wantsPrivacy (by decide) (by decide)) wq587 cvX1_wantsPrivacy wv8 rfl rfl rfl (Nat.le_of_ble_eq_true rfl) (by decide) (by decide) rfl dX1_isPrivateTalk_35 ?_
        refine aw_if_eq (tgt := 45) (by decide) dX1_isPrivateTalk_38 (fun b6 => ?_) (fun b6 => ?_)
        · skip
          refine aw_iconst (v := 0) (by decide) dX1_isPrivateTalk_45 ?_
          exact aw_zret rfl (by decide) (by decide) (by decide) dX1_isPrivateTalk_46 ⟨by (first | with_reducible rfl | (simp [cs_ptalk, wd_w_row, row_self, row_row, b1, b4, b5, b6]; done) | (simp_all [cs_ptalk, wd_w_row, row_self, row_row, b1, b4, b5, b6]; done)), by (first | with_reducible rfl | (simp [cs_ptalk, wd_w_row, row_self, row_row, b1, b4, b5, b6]; done) | (simp_all [cs_ptalk, wd_w_row, row_self, row_row, b1, b4, b5, b6]; done))⟩
        · skip
          refine aw_iconst (v := 1) (by decide) dX1_isPrivateTalk_41 ?_
          refine aw_goto (tgt := 46) (by decide) dX1_isPrivateTalk_42 ?_
          exact aw_zret rfl (by decide) (by decide) (by decide) dX1_isPrivateTalk_46 ⟨by (first | with_reducible rfl | (simp [cs_ptalk, wd_w_row, row_self, row_row, b1, b4, b5, b6]; done) | (simp_all [cs_ptalk, wd_w_row, row_self, row_row, b1, b4, b5, b6]; done)), by (first | with_reducible rfl | (simp [cs_ptalk, wd_w_row, row_self, row_row, b1, b4, b5, b6]; done) | (simp_all [cs_ptalk, wd_w_row, row_self, row_row, b1, b4, b5, b6]; done))⟩
    · skip
      refine aw_iconst (v := 0) (by decide) dX1_isPrivateTalk_17 ?_
      exact aw_zret rfl (by decide) (by decide) (by decide) dX1_isPrivateTalk_18 ⟨by (first | with_reducible rfl | (simp [cs_ptalk, wd_w_row, row_self, row_row, b1, b4]; done) | (simp_all [cs_ptalk, wd_w_row, row_self, row_row, b1, b4]; done)), by (first | with_reducible rfl | (simp [cs_ptalk, wd_w_row, row_self, row_row, b1, b4]; done) | (simp_all [cs_ptalk, wd_w_row, row_self, row_row, b1, b4]; done))⟩
def cs_inc (B : Nat → Int32) (k : Nat) : Nat → Int32 := upd B k (B k + 1)
def cs_upon (B : Nat → Int32) (m l s : Nat) : Nat → Int32 := if cs_ptalk B m l = 0 then cs_inc B 235 else cs_inc (upd B (101 + 8 * s + 7) 1) 236
theorem cg_inc {B : Nat → Int32} {n m k : Nat} (G : cg B n m) (h : 230 < k) : cg (cs_inc B k) n m := cg_upd G (by omega) (by omega) (fun _ _ => ⟨by omega, by omega⟩)
theorem inc_hi {B : Nat → Int32} {k x : Nat} (h : x ≠ k) : cs_inc B k x = B x := upd_ne _ _ h
theorem ct_X1_comeUpon {ad : Nat → Nat → Nat → Nat} {o : wd_S} {n m l s : Nat} (G : cg (o.1 0) n m) (hl : l < n) (hs : s < m) : CT ad MX1_comeUpon [.ref (ad 8 0 0), .ref (ad 1 0 l), .ref (ad 3 0 s)] o (RT none (wd_row o 0 (cs_upon (o.1 0) m l s))) := by
  obtain ⟨g1, g2, g3, g4, g5, g6⟩ := id G
  have hl5 : l < 5 := by omega
  have hs16 : s < 16 := by omega
  refine CT.of (L := [some (.ref (ad 8 0 0)), some (.ref (ad 1 0 l)), some (.ref (ad 3 0 s))]) rfl rfl (by decide) (Nat.le_of_ble_eq_true rfl) rfl ?_
  refine aw_aload_n (x := ad 8 0 0) rfl dX1_comeUpon_0 ?_
  refine aw_aload_n (x := ad 1 0 l) rfl dX1_comeUpon_1 ?_
  refine aw_rV (As := [.ref (ad 1 0 l)]) (S := []) (v := some (.int (cs_ptalk (o.1 0) m l))) (o2 := o) (ct_X1_ptalk G hl5) (mm_fit_of cbX1_isPrivateTalk (by decide) (by decide)) wq583 cvX1_isPrivateTalk wv8 rfl rfl rfl (Nat.le_of_ble_eq_true rfl) (by decide) (by decide) rfl dX1_comeUpon_2 ?_
  refine aw_if_eq (tgt := 29) (by decide) dX1_comeUpon_5 (fun b1 => ?_) (fun b1 => ?_)
  · skip
    refine aw_aload_n (x := ad 8 0 0) rfl dX1_comeUpon_29 ?_
    refine aw_getr (q := (0, 0, 0)) wv8 rfl flX1_9 rfl rfl dX1_comeUpon_30 ?_
    refine aw_getr (q := (4, 0, 0)) (wv0 (by decide)) rfl flX1_70 rfl rfl dX1_comeUpon_33 ?_
    refine aw_iconst (v := 4) (by decide) dX1_comeUpon_36 ?_
    refine aw_dup2 rfl rfl dX1_comeUpon_37 ?_
    refine aw_ild (x := 4) (q := (0, 235)) (y := o.1 0 235) (by decide) (wv4 (by decide)) rfl rfl (Nat.le_of_ble_eq_true rfl) rfl dX1_comeUpon_38 ?_
    refine aw_iconst (v := 1) (by decide) dX1_comeUpon_39 ?_
    refine aw_iaddz (z := (o.1 0 235) + 1) rfl dX1_comeUpon_40 ?_
    refine aw_ist (x := 4) (q := (0, 235)) (y := (o.1 0 235) + 1) (by decide) (wv4 (by decide)) rfl (Nat.le_of_ble_eq_true rfl) rfl dX1_comeUpon_41 ?_
    exact aw_vret rfl (by decide) (by decide) dX1_comeUpon_42 ⟨rfl, by (first | with_reducible rfl | (simp [cs_upon, cs_inc, upd, wd_w_row, row_self, row_row, b1]; done) | (simp_all [cs_upon, cs_inc, upd, wd_w_row, row_self, row_row, b1]; done))⟩
  · skip
    refine aw_aload_n (x := ad 3 0 s) rfl dX1_comeUpon_8 ?_
    refine aw_iconst (v := 1) (by decide) dX1_comeUpon_9 ?_
    refine aw_putz (q := (0, 101 + 8 * s + 7)) (by decide) (wv3 (by decide) (by omega)) rfl fwX1_81 rfl rfl dX1_comeUpon_10 ?_
    refine aw_aload_n (x := ad 8 0 0) rfl dX1_comeUpon_13 ?_
    refine aw_getr (q := (0, 0, 0)) wv8 rfl flX1_9 rfl rfl dX1_comeUpon_14 ?_
    refine aw_getr (q := (4, 0, 0)) (wv0 (by decide)) rfl flX1_70 rfl rfl dX1_comeUpon_17 ?_
    refine aw_iconst (v := 5) (by decide) dX1_comeUpon_20 ?_
    refine aw_dup2 rfl rfl dX1_comeUpon_21 ?_
    refine aw_ild (x := 5) (q := (0, 236)) (y := (wd_w o 0 (101 + 8 * s + 7) 1).1 0 236) (by decide) (wv4 (by decide)) rfl rfl (Nat.le_of_ble_eq_true rfl) rfl dX1_comeUpon_22 ?_
    refine aw_iconst (v := 1) (by decide) dX1_comeUpon_23 ?_
    refine aw_iaddz (z := ((wd_w o 0 (101 + 8 * s + 7) 1).1 0 236) + 1) rfl dX1_comeUpon_24 ?_
    refine aw_ist (x := 5) (q := (0, 236)) (y := ((wd_w o 0 (101 + 8 * s + 7) 1).1 0 236) + 1) (by decide) (wv4 (by decide)) rfl (Nat.le_of_ble_eq_true rfl) rfl dX1_comeUpon_25 ?_
    refine aw_goto (tgt := 42) (by decide) dX1_comeUpon_26 ?_
    exact aw_vret rfl (by decide) (by decide) dX1_comeUpon_42 ⟨rfl, by (first | with_reducible rfl | (simp [cs_upon, cs_inc, upd, wd_w_row, row_self, row_row, b1]; done) | (simp_all [cs_upon, cs_inc, upd, wd_w_row, row_self, row_row, b1]; done))⟩
def cs_answer (B : Nat → Int32) (n l s : Nat) : Nat → Int32 :=
  cs_inc (match lk n (cs_cw B l 4 (nI s) (20 * l + 5)) with
    | none => cs_cw B l 4 (nI s)
    | some e => upd (cs_comeTo (cs_cw B l 4 (nI s)) e 4) (20 * e + 6) 1) 231
def cs_ansIn (B : Nat → Int32) (l s : Nat) : Nat → Int32 := if B (20 * l + 3) = nI s then cs_comeTo B l 1 else cs_inc (upd (cs_comeTo B l 8) (20 * l + 4) (nI s)) 232
theorem ct_X1_answerCall {ad : Nat → Nat → Nat → Nat} {o : wd_S} {n m l s : Nat} (G : cg (o.1 0) n m) (hl : l < n) (hs : s < m) : CT ad MX1_answerCall [.ref (ad 8 0 0), .ref (ad 1 0 l), .ref (ad 3 0 s)] o (RT none (wd_row o 0 (cs_answer (o.1 0) n l s))) := by
  obtain ⟨g1, g2, g3, g4, g5, g6⟩ := id G
  have hl5 : l < 5 := by omega
  have hs16 : s < 16 := by omega
  refine CT.of (L := [some (.ref (ad 8 0 0)), some (.ref (ad 1 0 l)), some (.ref (ad 3 0 s)), none]) rfl rfl (by decide) (Nat.le_of_ble_eq_true rfl) rfl ?_
  refine aw_aload_n (x := ad 1 0 l) rfl dX1_answerCall_0 ?_
  refine aw_iconst (v := 4) (by decide) dX1_answerCall_1 ?_
  refine aw_aload_n (x := ad 3 0 s) rfl dX1_answerCall_2 ?_
  refine aw_num (Or.inr rfl) (wv3 (by decide) (by omega)) flX1_40 rfl rfl dX1_answerCall_3 ?_
  refine aw_rV (As := [.int 4, .int (nI s)]) (S := []) (v := none) (o2 := (wd_row o 0 (cs_cw (o.1 0) l 4 (nI s)))) (ct_X3_comeToWith (by decide) (by omega)) (mm_fit_of cbX3_comeToWith (by decide) (by decide)) wq566 cvX3_comeToWith (wv1 (by decide) hl5) rfl rfl rfl (Nat.le_of_ble_eq_true rfl) (by decide) (by decide) rfl dX1_answerCall_6 ?_
  obtain ⟨o1, ho1⟩ : ∃ z, z = (wd_row o 0 (cs_cw (o.1 0) l 4 (nI s))) := ⟨_, rfl⟩
  rw [← ho1]
  have Go1 : cg (o1.1 0) n m := by rw [ho1]; rw [row_self]; exact cg_cw G (by omega)
  refine aw_aload_n (x := ad 8 0 0) rfl dX1_answerCall_9 ?_
  refine aw_getr (q := (0, 0, 0)) wv8 rfl flX1_9 rfl rfl dX1_answerCall_10 ?_
  refine aw_aload_n (x := ad 1 0 l) rfl dX1_answerCall_13 ?_
  refine aw_geti (q := (0, 20 * l + 5)) (x := o1.1 0 (20 * l + 5)) (wv1 (by decide) hl5) rfl rfl flX1_60 rfl (Or.inl rfl) dX1_answerCall_14 ?_
  rcases k1 : lk n (o1.1 0 (20 * l + 5)) with _ | e1
  · skip
    refine aw_rV (As := [.int (o1.1 0 (20 * l + 5))]) (S := []) (v := some (.null)) (o2 := o1) (ct_X5_loopAt_none (lk_none Go1.1 (by have := Go1.2.1; have := Go1.2.2.2.1; omega) k1)) (mm_fit_of cbX5_loopAt (by decide) (by decide)) wq564 cvX5_loopAt (wv0 (by decide)) rfl rfl rfl (Nat.le_of_ble_eq_true rfl) (by decide) (by decide) rfl dX1_answerCall_17 ?_
    refine aw_astore_nN (L2 := [some (.ref (ad 8 0 0)), some (.ref (ad 1 0 l)), some (.ref (ad 3 0 s)), some (.null)]) (by decide) rfl rfl dX1_answerCall_20 ?_
    refine aw_aload_nN rfl dX1_answerCall_21 ?_
    refine aw_ifnullN (tgt := 35) (by decide) dX1_answerCall_22 ?_
    refine aw_aload_n (x := ad 8 0 0) rfl dX1_answerCall_35 ?_
    refine aw_getr (q := (0, 0, 0)) wv8 rfl flX1_9 rfl rfl dX1_answerCall_36 ?_
    refine aw_getr (q := (4, 0, 0)) (wv0 (by decide)) rfl flX1_70 rfl rfl dX1_answerCall_39 ?_
    refine aw_iconst (v := 0) (by decide) dX1_answerCall_42 ?_
    refine aw_dup2 rfl rfl dX1_answerCall_43 ?_
    refine aw_ild (x := 0) (q := (0, 231)) (y := o1.1 0 231) (by decide) (wv4 (by decide)) rfl rfl (Nat.le_of_ble_eq_true rfl) rfl dX1_answerCall_44 ?_
    refine aw_iconst (v := 1) (by decide) dX1_answerCall_45 ?_
    refine aw_iaddz (z := (o1.1 0 231) + 1) rfl dX1_answerCall_46 ?_
    refine aw_ist (x := 0) (q := (0, 231)) (y := (o1.1 0 231) + 1) (by decide) (wv4 (by decide)) rfl (Nat.le_of_ble_eq_true rfl) rfl dX1_answerCall_47 ?_
    exact aw_vret rfl (by decide) (by decide) dX1_answerCall_48 ⟨rfl, by (subst ho1; first | with_reducible rfl | (simp [cs_answer, cs_inc, upd, wd_w_row, row_self, row_row, k1]; done) | (simp_all [cs_answer, cs_inc, upd, wd_w_row, row_self, row_row, k1]; done))⟩
  · skip
    obtain ⟨k1e, k1l⟩ := lk_some k1
    have k1b : e1 < 5 := by have := Go1.2.1; have := Go1.2.2.2.1; omega
    refine aw_rV (As := [.int (o1.1 0 (20 * l + 5))]) (S := []) (v := some (.ref (ad 1 0 e1))) (o2 := o1) (by rw [k1e]; exact ct_X5_loopAt_some Go1 k1l) (mm_fit_of cbX5_loopAt (by decide) (by decide)) wq564 cvX5_loopAt (wv0 (by decide)) rfl rfl rfl (Nat.le_of_ble_eq_true rfl) (by decide) (by decide) rfl dX1_answerCall_17 ?_
    refine aw_astore_n (L2 := [some (.ref (ad 8 0 0)), some (.ref (ad 1 0 l)), some (.ref (ad 3 0 s)), some (.ref (ad 1 0 e1))]) (by decide) rfl rfl dX1_answerCall_20 ?_
    refine aw_aload_n (x := ad 1 0 e1) rfl dX1_answerCall_21 ?_
    refine aw_ifnull dX1_answerCall_22 ?_
    refine aw_aload_n (x := ad 1 0 e1) rfl dX1_answerCall_25 ?_
    refine aw_iconst (v := 4) (by decide) dX1_answerCall_26 ?_
    refine aw_rV (As := [.int 4]) (S := []) (v := none) (o2 := (wd_row o1 0 (cs_comeTo (o1.1 0) e1 4))) (ct_X3_comeTo (by decide) (by omega)) (mm_fit_of cbX3_comeTo (by decide) (by decide)) wq574 cvX3_comeTo (wv1 (by decide) k1b) rfl rfl rfl (Nat.le_of_ble_eq_true rfl) (by decide) (by decide) rfl dX1_answerCall_27 ?_
    obtain ⟨o2, ho2⟩ : ∃ z, z = (wd_row o1 0 (cs_comeTo (o1.1 0) e1 4)) := ⟨_, rfl⟩
    rw [← ho2]
    have Go2 : cg (o2.1 0) n m := by rw [ho2]; rw [row_self]; exact cg_comeTo Go1 (by omega)
    refine aw_aload_n (x := ad 1 0 e1) rfl dX1_answerCall_30 ?_
    refine aw_iconst (v := 1) (by decide) dX1_answerCall_31 ?_
    refine aw_putz (q := (0, 20 * e1 + 6)) (by decide) (wv1 (by decide) k1b) rfl fwX1_67 rfl rfl dX1_answerCall_32 ?_
    refine aw_aload_n (x := ad 8 0 0) rfl dX1_answerCall_35 ?_
    refine aw_getr (q := (0, 0, 0)) wv8 rfl flX1_9 rfl rfl dX1_answerCall_36 ?_
    refine aw_getr (q := (4, 0, 0)) (wv0 (by decide)) rfl flX1_70 rfl rfl dX1_answerCall_39 ?_
    refine aw_iconst (v := 0) (by decide) dX1_answerCall_42 ?_
    refine aw_dup2 rfl rfl dX1_answerCall_43 ?_
    refine aw_ild (x := 0) (q := (0, 231)) (y := (wd_w o2 0 (20 * e1 + 6) 1).1 0 231) (by decide) (wv4 (by decide)) rfl rfl (Nat.le_of_ble_eq_true rfl) rfl dX1_answerCall_44 ?_
    refine aw_iconst (v := 1) (by decide) dX1_answerCall_45 ?_
    refine aw_iaddz (z := ((wd_w o2 0 (20 * e1 + 6) 1).1 0 231) + 1) rfl dX1_answerCall_46 ?_
    refine aw_ist (x := 0) (q := (0, 231)) (y := ((wd_w o2 0 (20 * e1 + 6) 1).1 0 231) + 1) (by decide) (wv4 (by decide)) rfl (Nat.le_of_ble_eq_true rfl) rfl dX1_answerCall_47 ?_
    exact aw_vret rfl (by decide) (by decide) dX1_answerCall_48 ⟨rfl, by (subst ho2; subst ho1; first | with_reducible rfl | (simp [cs_answer, cs_inc, upd, wd_w_row, row_self, row_row, k1]; done) | (simp_all [cs_answer, cs_inc, upd, wd_w_row, row_self, row_row, k1]; done))⟩
theorem ct_X1_answerInLoop {ad : Nat → Nat → Nat → Nat} {o : wd_S} {n m l s : Nat} (G : cg (o.1 0) n m) (hl : l < n) (hs : s < m) : CT ad MX1_answerInLoop [.ref (ad 8 0 0), .ref (ad 1 0 l), .ref (ad 3 0 s)] o (RT none (wd_row o 0 (cs_ansIn (o.1 0) l s))) := by
  obtain ⟨g1, g2, g3, g4, g5, g6⟩ := id G
  have hl5 : l < 5 := by omega
  have hs16 : s < 16 := by omega
  refine CT.of (L := [some (.ref (ad 8 0 0)), some (.ref (ad 1 0 l)), some (.ref (ad 3 0 s))]) rfl rfl (by decide) (Nat.le_of_ble_eq_true rfl) rfl ?_
  refine aw_aload_n (x := ad 1 0 l) rfl dX1_answerInLoop_0 ?_
  refine aw_geti (q := (0, 20 * l + 3)) (x := o.1 0 (20 * l + 3)) (wv1 (by decide) hl5) rfl rfl flX1_54 rfl (Or.inl rfl) dX1_answerInLoop_1 ?_
  refine aw_aload_n (x := ad 3 0 s) rfl dX1_answerInLoop_4 ?_
  refine aw_num (Or.inr rfl) (wv3 (by decide) (by omega)) flX1_40 rfl rfl dX1_answerInLoop_5 ?_
  refine aw_icmp_ne (tgt := 17) (by decide) dX1_answerInLoop_8 (fun b1 => ?_) (fun b1 => ?_)
  · skip
    refine aw_aload_n (x := ad 1 0 l) rfl dX1_answerInLoop_17 ?_
    refine aw_bipush (v := 8) (by decide) dX1_answerInLoop_18 ?_
    refine aw_rV (As := [.int 8]) (S := []) (v := none) (o2 := (wd_row o 0 (cs_comeTo (o.1 0) l 8))) (ct_X3_comeTo (by decide) (by omega)) (mm_fit_of cbX3_comeTo (by decide) (by decide)) wq574 cvX3_comeTo (wv1 (by decide) hl5) rfl rfl rfl (Nat.le_of_ble_eq_true rfl) (by decide) (by decide) rfl dX1_answerInLoop_20 ?_
    obtain ⟨o1, ho1⟩ : ∃ z, z = (wd_row o 0 (cs_comeTo (o.1 0) l 8)) := ⟨_, rfl⟩
    rw [← ho1]
    have Go1 : cg (o1.1 0) n m := by rw [ho1]; rw [row_self]; exact cg_comeTo G (by omega)
    refine aw_aload_n (x := ad 1 0 l) rfl dX1_answerInLoop_23 ?_
    refine aw_aload_n (x := ad 3 0 s) rfl dX1_answerInLoop_24 ?_
    refine aw_num (Or.inr rfl) (wv3 (by decide) (by omega)) flX1_40 rfl rfl dX1_answerInLoop_25 ?_
    refine aw_puti (q := (0, 20 * l + 4)) (wv1 (by decide) hl5) rfl fwX1_74 rfl rfl dX1_answerInLoop_28 ?_
    refine aw_aload_n (x := ad 8 0 0) rfl dX1_answerInLoop_31 ?_
    refine aw_getr (q := (0, 0, 0)) wv8 rfl flX1_9 rfl rfl dX1_answerInLoop_32 ?_
    refine aw_getr (q := (4, 0, 0)) (wv0 (by decide)) rfl flX1_70 rfl rfl dX1_answerInLoop_35 ?_
    refine aw_iconst (v := 1) (by decide) dX1_answerInLoop_38 ?_
    refine aw_dup2 rfl rfl dX1_answerInLoop_39 ?_
    refine aw_ild (x := 1) (q := (0, 232)) (y := (wd_w o1 0 (20 * l + 4) (nI s)).1 0 232) (by decide) (wv4 (by decide)) rfl rfl (Nat.le_of_ble_eq_true rfl) rfl dX1_answerInLoop_40 ?_
    refine aw_iconst (v := 1) (by decide) dX1_answerInLoop_41 ?_
    refine aw_iaddz (z := ((wd_w o1 0 (20 * l + 4) (nI s)).1 0 232) + 1) rfl dX1_answerInLoop_42 ?_
    refine aw_ist (x := 1) (q := (0, 232)) (y := ((wd_w o1 0 (20 * l + 4) (nI s)).1 0 232) + 1) (by decide) (wv4 (by decide)) rfl (Nat.le_of_ble_eq_true rfl) rfl dX1_answerInLoop_43 ?_
    exact aw_vret rfl (by decide) (by decide) dX1_answerInLoop_44 ⟨rfl, by (subst ho1; first | with_reducible rfl | (simp [cs_ansIn, cs_inc, upd, wd_w_row, row_self, row_row, b1]; done) | (simp_all [cs_ansIn, cs_inc, upd, wd_w_row, row_self, row_row, b1]; done))⟩
  · skip
    refine aw_aload_n (x := ad 1 0 l) rfl dX1_answerInLoop_11 ?_
    refine aw_iconst (v := 1) (by decide) dX1_answerInLoop_12 ?_
    refine aw_rV (As := [.int 1]) (S := []) (v := none) (o2 := (wd_row o 0 (cs_comeTo (o.1 0) l 1))) (ct_X3_comeTo (by decide) (by omega)) (mm_fit_of cbX3_comeTo (by decide) (by decide)) wq574 cvX3_comeTo (wv1 (by decide) hl5) rfl rfl rfl (Nat.le_of_ble_eq_true rfl) (by decide) (by decide) rfl dX1_answerInLoop_13 ?_
    obtain ⟨o2, ho2⟩ : ∃ z, z = (wd_row o 0 (cs_comeTo (o.1 0) l 1)) := ⟨_, rfl⟩
    rw [← ho2]
    have Go2 : cg (o2.1 0) n m := by rw [ho2]; rw [row_self]; exact cg_comeTo G (by omega)
    exact aw_vret rfl (by decide) (by decide) dX1_answerInLoop_16 ⟨rfl, by (subst ho2; first | with_reducible rfl | (simp [cs_ansIn, cs_inc, upd, wd_w_row, row_self, row_row, b1]; done) | (simp_all [cs_ansIn, cs_inc, upd, wd_w_row, row_self, row_row, b1]; done))⟩
def cs_lift (B : Nat → Int32) (n m l s : Nat) : Nat → Int32 :=
  let B1 := upd B (101 + 8 * s + 6) 1
  if cs_cuts B1 l s = 0 then
    (if B1 (20 * l + 1) = 0 then cs_cw B1 l 1 (nI s) else if B1 (20 * l + 1) = 3 then cs_answer B1 n l s else if B1 (20 * l + 1) = 7 then cs_ansIn B1 l s
     else if B1 (20 * l + 1) = 8 then (if B1 (20 * l + 3) = nI s then B1 else cs_upon B1 m l s) else cs_upon B1 m l s)
  else B1
theorem ct_X1_lift {ad : Nat → Nat → Nat → Nat} {o : wd_S} {n m l s : Nat} (G : cg (o.1 0) n m) (hl : l < n) (hs : s < m) (hh : o.1 0 (101 + 8 * s + 1) = nI l) : CT ad MX1_liftReceiver [.ref (ad 8 0 0), .ref (ad 3 0 s)] o (RT none (wd_row o 0 (cs_lift (o.1 0) n m l s))) := by
  obtain ⟨g1, g2, g3, g4, g5, g6⟩ := id G
  have hl5 : l < 5 := by omega
  have hs16 : s < 16 := by omega
  refine CT.of (L := [some (.ref (ad 8 0 0)), some (.ref (ad 3 0 s)), none]) rfl rfl (by decide) (Nat.le_of_ble_eq_true rfl) rfl ?_
  refine aw_aload_n (x := ad 3 0 s) rfl dX1_liftReceiver_0 ?_
  refine aw_iconst (v := 1) (by decide) dX1_liftReceiver_1 ?_
  refine aw_putz (q := (0, 101 + 8 * s + 6)) (by decide) (wv3 (by decide) (by omega)) rfl fwX1_15 rfl rfl dX1_liftReceiver_2 ?_
  refine aw_aload_n (x := ad 8 0 0) rfl dX1_liftReceiver_5 ?_
  refine aw_getr (q := (0, 0, 0)) wv8 rfl flX1_9 rfl rfl dX1_liftReceiver_6 ?_
  refine aw_aload_n (x := ad 3 0 s) rfl dX1_liftReceiver_9 ?_
  refine aw_geti (q := (0, 101 + 8 * s + 1)) (x := nI l) (wv3 (by decide) (by omega)) rfl ((show _ = o.1 0 (101 + 8 * s + 1) from by simp [wd_get]).trans hh) flX1_21 rfl (Or.inl rfl) dX1_liftReceiver_10 ?_
  obtain ⟨o1, ho1⟩ : ∃ z, z = (wd_w o 0 (101 + 8 * s + 6) 1) := ⟨_, rfl⟩
  rw [← ho1]
  have Go1 : cg (o1.1 0) n m := by rw [ho1]; simp only [wd_w_row, row_self]; exact cg_upd (G) (by omega) (by omega) (fun _ _ => ⟨by omega, by omega⟩)
  have hho1 : o1.1 0 (101 + 8 * s + 1) = nI l := by rw [ho1]; simp only [wd_w_row, row_self]; rw [upd_ne _ _ (by omega)]; exact hh
  refine aw_rV (As := [.int (nI l)]) (S := []) (v := some (.ref (ad 1 0 l))) (o2 := o1) (ct_X5_loopAt_some Go1 hl) (mm_fit_of cbX5_loopAt (by decide) (by decide)) wq564 cvX5_loopAt (wv0 (by decide)) rfl rfl rfl (Nat.le_of_ble_eq_true rfl) (by decide) (by decide) rfl dX1_liftReceiver_13 ?_
  refine aw_astore_n (L2 := [some (.ref (ad 8 0 0)), some (.ref (ad 3 0 s)), some (.ref (ad 1 0 l))]) (by decide) rfl rfl dX1_liftReceiver_16 ?_
  refine aw_aload_n (x := ad 1 0 l) rfl dX1_liftReceiver_17 ?_
  refine aw_ifnull dX1_liftReceiver_18 ?_
  refine aw_aload_n (x := ad 1 0 l) rfl dX1_liftReceiver_21 ?_
  refine aw_aload_n (x := ad 3 0 s) rfl dX1_liftReceiver_22 ?_
  refine aw_rV (As := [.ref (ad 3 0 s)]) (S := []) (v := some (.int (cs_cuts (o1.1 0) l s))) (o2 := o1) (ct_X3_cutsOff (by decide) hl5 hs16) (mm_fit_of cbX3_cutsOff (by decide) (by decide)) wq565 cvX3_cutsOff (wv1 (by decide) (by omega)) rfl rfl rfl (Nat.le_of_ble_eq_true rfl) (by decide) (by decide) rfl dX1_liftReceiver_23 ?_
  refine aw_if_eq (tgt := 30) (by decide) dX1_liftReceiver_26 (fun b1 => ?_) (fun b1 => ?_)
  · skip
    refine aw_aload_n (x := ad 1 0 l) rfl dX1_liftReceiver_30 ?_
    refine aw_geti (q := (0, 20 * l + 1)) (x := o1.1 0 (20 * l + 1)) (wv1 (by decide) (by omega)) rfl rfl flX1_37 rfl (Or.inl rfl) dX1_liftReceiver_31 ?_
    refine aw_if_ne (tgt := 49) (by decide) dX1_liftReceiver_34 (fun b2 => ?_) (fun b2 => ?_)
    · skip
      refine aw_aload_n (x := ad 1 0 l) rfl dX1_liftReceiver_49 ?_
      refine aw_geti (q := (0, 20 * l + 1)) (x := o1.1 0 (20 * l + 1)) (wv1 (by decide) (by omega)) rfl rfl flX1_37 rfl (Or.inl rfl) dX1_liftReceiver_50 ?_
      refine aw_iconst (v := 3) (by decide) dX1_liftReceiver_53 ?_
      refine aw_icmp_ne (tgt := 66) (by decide) dX1_liftReceiver_54 (fun b3 => ?_) (fun b3 => ?_)
      · skip
        refine aw_aload_n (x := ad 1 0 l) rfl dX1_liftReceiver_66 ?_
        refine aw_geti (q := (0, 20 * l + 1)) (x := o1.1 0 (20 * l + 1)) (wv1 (by decide) (by omega)) rfl rfl flX1_37 rfl (Or.inl rfl) dX1_liftReceiver_67 ?_
        refine aw_bipush (v := 7) (by decide) dX1_liftReceiver_70 ?_
        refine aw_icmp_ne (tgt := 84) (by decide) dX1_liftReceiver_72 (fun b4 => ?_) (fun b4 => ?_)
        · skip
          refine aw_aload_n (x := ad 1 0 l) rfl dX1_liftReceiver_84 ?_
          refine aw_geti (q := (0, 20 * l + 1)) (x := o1.1 0 (20 * l + 1)) (wv1 (by decide) (by omega)) rfl rfl flX1_37 rfl (Or.inl rfl) dX1_liftReceiver_85 ?_
          refine aw_bipush (v := 8) (by decide) dX1_liftReceiver_88 ?_
          refine aw_icmp_ne (tgt := 104) (by decide) dX1_liftReceiver_90 (fun b5 => ?_) (fun b5 => ?_)
          · skip
            refine aw_aload_n (x := ad 8 0 0) rfl dX1_liftReceiver_104 ?_
            refine aw_aload_n (x := ad 1 0 l) rfl dX1_liftReceiver_105 ?_
            refine aw_aload_n (x := ad 3 0 s) rfl dX1_liftReceiver_106 ?_
            refine aw_rV (As := [.ref (ad 1 0 l), .ref (ad 3 0 s)]) (S := []) (v := none) (o2 := (wd_row o1 0 (cs_upon (o1.1 0) m l s))) (ct_X1_comeUpon Go1 hl hs) (mm_fit_of cbX1_comeUpon (by decide) (by decide)) wq579 cvX1_comeUpon wv8 rfl rfl rfl (Nat.le_of_ble_eq_true rfl) (by decide) (by decide) rfl dX1_liftReceiver_107 ?_
            exact aw_vret rfl (by decide) (by decide) dX1_liftReceiver_110 ⟨rfl, by (subst ho1; first | with_reducible rfl | (simp [cs_lift, wd_w_row, row_self, row_row, b1, b2, b3, b4, b5]; done) | (simp_all [cs_lift, wd_w_row, row_self, row_row, b1, b2, b3, b4, b5]; done))⟩
          · skip
            refine aw_aload_n (x := ad 1 0 l) rfl dX1_liftReceiver_93 ?_
            refine aw_geti (q := (0, 20 * l + 3)) (x := o1.1 0 (20 * l + 3)) (wv1 (by decide) (by omega)) rfl rfl flX1_54 rfl (Or.inl rfl) dX1_liftReceiver_94 ?_
            refine aw_aload_n (x := ad 3 0 s) rfl dX1_liftReceiver_97 ?_
            refine aw_num (Or.inr rfl) (wv3 (by decide) (by omega)) flX1_40 rfl rfl dX1_liftReceiver_98 ?_
            refine aw_icmp_eq (tgt := 110) (by decide) dX1_liftReceiver_101 (fun b6 => ?_) (fun b6 => ?_)
            · skip
              exact aw_vret rfl (by decide) (by decide) dX1_liftReceiver_110 ⟨rfl, by (subst ho1; first | with_reducible rfl | (simp [cs_lift, wd_w_row, row_self, row_row, b1, b2, b3, b4, b5, b6]; done) | (simp_all [cs_lift, wd_w_row, row_self, row_row, b1, b2, b3, b4, b5, b6]; done))⟩
            · skip
              refine aw_aload_n (x := ad 8 0 0) rfl dX1_liftReceiver_104 ?_
              refine aw_aload_n (x := ad 1 0 l) rfl dX1_liftReceiver_105 ?_
              refine aw_aload_n (x := ad 3 0 s) rfl dX1_liftReceiver_106 ?_
              refine aw_rV (As := [.ref (ad 1 0 l), .ref (ad 3 0 s)]) (S := []) (v := none) (o2 := (wd_row o1 0 (cs_upon (o1.1 0) m l s))) (ct_X1_comeUpon Go1 hl hs) (mm_fit_of cbX1_comeUpon (by decide) (by decide)) wq579 cvX1_comeUpon wv8 rfl rfl rfl (Nat.le_of_ble_eq_true rfl) (by decide) (by decide) rfl dX1_liftReceiver_107 ?_
              exact aw_vret rfl (by decide) (by decide) dX1_liftReceiver_110 ⟨rfl, by (subst ho1; first | with_reducible rfl | (simp [cs_lift, wd_w_row, row_self, row_row, b1, b2, b3, b4, b5, b6]; done) | (simp_all [cs_lift, wd_w_row, row_self, row_row, b1, b2, b3, b4, b5, b6]; done))⟩
        · skip
          refine aw_aload_n (x := ad 8 0 0) rfl dX1_liftReceiver_75 ?_
          refine aw_aload_n (x := ad 1 0 l) rfl dX1_liftReceiver_76 ?_
          refine aw_aload_n (x := ad 3 0 s) rfl dX1_liftReceiver_77 ?_
          refine aw_rV (As := [.ref (ad 1 0 l), .ref (ad 3 0 s)]) (S := []) (v := none) (o2 := (wd_row o1 0 (cs_ansIn (o1.1 0) l s))) (ct_X1_answerInLoop Go1 hl hs) (mm_fit_of cbX1_answerInLoop (by decide) (by decide)) wq575 cvX1_answerInLoop wv8 rfl rfl rfl (Nat.le_of_ble_eq_true rfl) (by decide) (by decide) rfl dX1_liftReceiver_78 ?_
          refine aw_goto (tgt := 110) (by decide) dX1_liftReceiver_81 ?_
          exact aw_vret rfl (by decide) (by decide) dX1_liftReceiver_110 ⟨rfl, by (subst ho1; first | with_reducible rfl | (simp [cs_lift, wd_w_row, row_self, row_row, b1, b2, b3, b4]; done) | (simp_all [cs_lift, wd_w_row, row_self, row_row, b1, b2, b3, b4]; done))⟩
      · skip
        refine aw_aload_n (x := ad 8 0 0) rfl dX1_liftReceiver_57 ?_
        refine aw_aload_n (x := ad 1 0 l) rfl dX1_liftReceiver_58 ?_
        refine aw_aload_n (x := ad 3 0 s) rfl dX1_liftReceiver_59 ?_
        refine aw_rV (As := [.ref (ad 1 0 l), .ref (ad 3 0 s)]) (S := []) (v := none) (o2 := (wd_row o1 0 (cs_answer (o1.1 0) n l s))) (ct_X1_answerCall Go1 hl hs) (mm_fit_of cbX1_answerCall (by decide) (by decide)) wq570 cvX1_answerCall wv8 rfl rfl rfl (Nat.le_of_ble_eq_true rfl) (by decide) (by decide) rfl dX1_liftReceiver_60 ?_
        refine aw_goto (tgt := 110) (by decide) dX1_liftReceiver_63 ?_
        exact aw_vret rfl (by decide) (by decide) dX1_liftReceiver_110 ⟨rfl, by (subst ho1; first | with_reducible rfl | (simp [cs_lift, wd_w_row, row_self, row_row, b1, b2, b3]; done) | (simp_all [cs_lift, wd_w_row, row_self, row_row, b1, b2, b3]; done))⟩
    · skip
      refine aw_aload_n (x := ad 1 0 l) rfl dX1_liftReceiver_37 ?_
      refine aw_iconst (v := 1) (by decide) dX1_liftReceiver_38 ?_
      refine aw_aload_n (x := ad 3 0 s) rfl dX1_liftReceiver_39 ?_
      refine aw_num (Or.inr rfl) (wv3 (by decide) (by omega)) flX1_40 rfl rfl dX1_liftReceiver_40 ?_
      refine aw_rV (As := [.int 1, .int (nI s)]) (S := []) (v := none) (o2 := (wd_row o1 0 (cs_cw (o1.1 0) l 1 (nI s)))) (ct_X3_comeToWith (by decide) hl5) (mm_fit_of cbX3_comeToWith (by decide) (by decide)) wq566 cvX3_comeToWith (wv1 (by decide) (by omega)) rfl rfl rfl (Nat.le_of_ble_eq_true rfl) (by decide) (by decide) rfl dX1_liftReceiver_43 ?_
      refine aw_goto (tgt := 110) (by decide) dX1_liftReceiver_46 ?_
      exact aw_vret rfl (by decide) (by decide) dX1_liftReceiver_110 ⟨rfl, by (subst ho1; first | with_reducible rfl | (simp [cs_lift, wd_w_row, row_self, row_row, b1, b2]; done) | (simp_all [cs_lift, wd_w_row, row_self, row_row, b1, b2]; done))⟩
  · skip
    exact aw_vret rfl (by decide) (by decide) dX1_liftReceiver_29 ⟨rfl, by (subst ho1; first | with_reducible rfl | (simp [cs_lift, wd_w_row, row_self, row_row, b1]; done) | (simp_all [cs_lift, wd_w_row, row_self, row_row, b1]; done))⟩
