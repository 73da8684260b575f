/-! the reference: who leaves, ends, lifts -/
theorem mcomes_ne {N : Nat → Int32} {l x : Nat} {p f q e : Int32} (h : ∀ k, 1 ≤ k → k ≤ 6 → x ≠ 20 * l + k) : mf_comes N l p f q e x = N x := by
  unfold mf_comes
  rw [upd_ne _ _ (h 6 (by decide) (by decide)), upd_ne _ _ (h 5 (by decide) (by decide)), upd_ne _ _ (h 4 (by decide) (by decide)), upd_ne _ _ (h 3 (by decide) (by decide)), upd_ne _ _ (h 2 (by decide) (by decide)), upd_ne _ _ (h 1 (by decide) (by decide))]
theorem stl_comes {N : Nat → Int32} {l : Nat} {p f q e : Int32} (hl : l < 5) : stl N (mf_comes N l p f q e) := fun x hx => mcomes_ne (by unfold st at hx; omega)
def mf_lv (l : Nat) : Nat → (Nat → Int32) → Int32 → (Nat → Int32) × Int32
  | 0, N, f => (N, f)
  | k + 1, N, f => if mf_on N l k = 0 then mf_lv l k N f else mf_lv l k (upd N (101 + 8 * k + 7) 3) (nI k)
def mf_leave (N : Nat → Int32) (m l : Nat) : Nat → Int32 :=
  if (mf_lv l m N (-1)).2 = -1 then mf_comes (mf_lv l m N (-1)).1 l 0 (-1) (-1) (-1)
  else mf_comes (upd (mf_lv l m N (-1)).1 (101 + 8 * (mf_lv l m N (-1)).2.toNatClampNeg + 7) 0) l 5 (mf_lv l m N (-1)).2 (-1) (-1)
theorem lv_ok {l : Nat} : ∀ (k : Nat) (N : Nat → Int32) (f : Int32), (mf_lv l k N f).2 = f ∨ ∃ e, e < k ∧ (mf_lv l k N f).2 = nI e
  | 0, _, _ => Or.inl rfl
  | k + 1, N, f => by
    unfold mf_lv
    split
    · rcases lv_ok k N f with h | ⟨e, h1, h2⟩
      · exact Or.inl h
      · exact Or.inr ⟨e, by omega, h2⟩
    · rcases lv_ok k (upd N (101 + 8 * k + 7) 3) (nI k) with h | ⟨e, h1, h2⟩
      · exact Or.inr ⟨k, by omega, h⟩
      · exact Or.inr ⟨e, by omega, h2⟩
theorem stl_lv {l : Nat} : ∀ (k : Nat) (N : Nat → Int32) (f : Int32), stl N (mf_lv l k N f).1
  | 0, _, _ => stl.rfl'
  | k + 1, N, f => by
    unfold mf_lv
    split
    · exact stl_lv k N f
    · exact (stl_upd (st_su (by decide) (by decide))).trans (stl_lv k _ _)
theorem stl_mleave {N : Nat → Int32} {m l : Nat} (hl : l < 5) : stl N (mf_leave N m l) := by
  unfold mf_leave
  split
  · exact (stl_lv _ _ _).trans (stl_comes hl)
  · exact (stl_lv _ _ _).trans ((stl_upd (st_su (by decide) (by decide))).trans (stl_comes hl))
theorem iinc_m1 (x : Int32) : x + Int32.ofInt (-1) = x - 1 := by
  have : Int32.ofInt (-1) = -1 := by decide
  rw [this, Int32.sub_eq_add_neg]
theorem lp_X8_lv {ad : Nat → Nat → Nat → Nat} {F : (Option Value ⊕ String) → wd_S → Prop} {n m l : Nat} (hl : l < 5) : ∀ (k : Nat) (o : wd_S) (f : Int32), k ≤ 16 → cg (o.1 8) n m → AW ad MX8_leaves 41 [some (.ref (ad 14 0 0)), some (.int (nI l)), some (.int ((mf_lv l k (o.1 8) f).2)), none] [] (wd_row o 8 (mf_lv l k (o.1 8) f).1) 0 0 F → AW ad MX8_leaves 12 [some (.ref (ad 14 0 0)), some (.int (nI l)), some (.int f), some (.int (nI k - 1))] [] o 0 0 F := by
  intro k
  induction k with
  | zero =>
    intro o f hk G K
    rw [show nI 0 - 1 = -1 by decide]
    refine aw_iload_n (x := (-1)) rfl dX8_leaves_12 ?_
    refine aw_if_lt (tgt := 41) (by decide) dX8_leaves_13 (fun _ => ?_) (fun z => absurd z (by decide))
    exact AW.locs (by simpa only [mf_lv, row_id] using K) (lsub_keep (lsub_keep (lsub_keep (lsub_none lsub_nil))))
  | succ k ih =>
    intro o f hk G K
    rw [nI_pred k]
    refine aw_iload_n (x := (nI k)) rfl dX8_leaves_12 ?_
    refine aw_if_lt (tgt := 41) (by decide) dX8_leaves_13 (fun z => absurd z (nI_pos (by omega))) (fun _ => ?_)
    refine aw_aload_n (x := ad 14 0 0) rfl dX8_leaves_16 ?_
    refine aw_iload_n (x := (nI k)) rfl dX8_leaves_17 ?_
    refine aw_iload_n (x := (nI l)) rfl dX8_leaves_18 ?_
    refine aw_rV (As := [.int (nI k), .int (nI l)]) (S := []) (v := some (.int (mf_on (o.1 8) l k))) (o2 := o) (ct_X8_isOn G hl (by omega)) (mm_fit_of cbX8_isOn (by decide) (by decide)) wq1029 cvX8_isOn wv14 rfl rfl rfl (Nat.le_of_ble_eq_true rfl) (by decide) (by decide) rfl dX8_leaves_19 ?_
    refine aw_if_eq (tgt := 35) (by decide) dX8_leaves_22 (fun b1 => ?_) (fun b1 => ?_)
    · skip
      refine aw_iinc (n := -1) (x := nI k) (v := nI k - 1) (L2 := [some (.ref (ad 14 0 0)), some (.int (nI l)), some (.int f), some (.int (nI k - 1))]) rfl (iinc_m1 _) (by decide) rfl rfl dX8_leaves_35 ?_
      refine aw_goto (tgt := 12) (by decide) dX8_leaves_38 ?_
      exact ih o f (by omega) G (by simpa [mf_lv, wd_w_row, row_self, row_row, b1] using K)
    · skip
      refine aw_aload_n (x := ad 14 0 0) rfl dX8_leaves_25 ?_
      refine aw_iload_n (x := (nI k)) rfl dX8_leaves_26 ?_
      refine aw_bipush (v := 6) (by decide) dX8_leaves_27 ?_
      refine aw_iconst (v := 3) (by decide) dX8_leaves_29 ?_
      refine aw_rV (As := [.int (nI k), .int 6, .int 3]) (S := []) (v := none) (o2 := (wd_w o 8 (101 + 8 * k + 7) 3)) (ct_X8_give (s := k) (w := 6) (by omega) (by decide)) (mm_fit_of cbX8_give (by decide) (by decide)) wq953 cvX8_give wv14 rfl rfl rfl (Nat.le_of_ble_eq_true rfl) (by decide) (by decide) rfl dX8_leaves_30 ?_
      refine aw_iload_n (x := (nI k)) rfl dX8_leaves_33 ?_
      refine aw_istore_n (L2 := [some (.ref (ad 14 0 0)), some (.int (nI l)), some (.int (nI k)), some (.int (nI k))]) (by decide) rfl rfl dX8_leaves_34 ?_
      obtain ⟨o1, ho1⟩ : ∃ z, z = (wd_w o 8 (101 + 8 * k + 7) 3) := ⟨_, rfl⟩
      rw [← ho1]
      have Go1 : cg (o1.1 8) n m := by rw [ho1]; simp only [wd_w_row, row_self]; exact cg_upd (G) (by omega) (by omega) (fun _ _ => ⟨by omega, by omega⟩)
      refine aw_iinc (n := -1) (x := nI k) (v := nI k - 1) (L2 := [some (.ref (ad 14 0 0)), some (.int (nI l)), some (.int (nI k)), some (.int (nI k - 1))]) rfl (iinc_m1 _) (by decide) rfl rfl dX8_leaves_35 ?_
      refine aw_goto (tgt := 12) (by decide) dX8_leaves_38 ?_
      exact ih o1 (nI k) (by omega) Go1 (by subst ho1; simpa [mf_lv, wd_w_row, row_self, row_row, b1] using K)
theorem tl_X8_lv0 {ad : Nat → Nat → Nat → Nat} {o : wd_S} {n m : Nat} (G : cg (o.1 8) n m) {l : Nat} (hl : l < 5) : AW ad MX8_leaves 41 [some (.ref (ad 14 0 0)), some (.int (nI l)), some (.int (-1)), none] [] o 0 0 (RT none (wd_row o 8 (mf_comes (o.1 8) l 0 (-1) (-1) (-1)))) := by
  obtain ⟨g1, g2, g3, g4, g5, g6⟩ := id G
  refine aw_iload_n (x := (-1)) rfl dX8_leaves_41 ?_
  refine aw_iconst (v := (-1)) (by decide) dX8_leaves_42 ?_
  refine aw_icmp_ne (tgt := 58) (by decide) dX8_leaves_43 (fun z => absurd z (by decide)) (fun _ => ?_)
  refine aw_aload_n (x := ad 14 0 0) rfl dX8_leaves_46 ?_
  refine aw_iload_n (x := (nI l)) rfl dX8_leaves_47 ?_
  refine aw_iconst (v := 0) (by decide) dX8_leaves_48 ?_
  refine aw_iconst (v := (-1)) (by decide) dX8_leaves_49 ?_
  refine aw_iconst (v := (-1)) (by decide) dX8_leaves_50 ?_
  refine aw_iconst (v := (-1)) (by decide) dX8_leaves_51 ?_
  refine aw_rV (As := [.int (nI l), .int 0, .int (-1), .int (-1), .int (-1)]) (S := []) (v := none) (o2 := (wd_row o 8 (mf_comes (o.1 8) l 0 (-1) (-1) (-1)))) (ct_X8_comes (by omega)) (mm_fit_of cbX8_comes (by decide) (by decide)) wq1013 cvX8_comes wv14 rfl rfl rfl (Nat.le_of_ble_eq_true rfl) (by decide) (by decide) rfl dX8_leaves_52 ?_
  obtain ⟨o1, ho1⟩ : ∃ z, z = (wd_row o 8 (mf_comes (o.1 8) l 0 (-1) (-1) (-1))) := ⟨_, rfl⟩
  rw [← ho1]
  have Go1 : cg (o1.1 8) n m := by rw [ho1]; rw [row_self]; exact cg_stl (stl_comes (by omega)) G
  refine aw_goto (tgt := 75) (by decide) dX8_leaves_55 ?_
  exact aw_vret rfl (by decide) (by decide) dX8_leaves_75 ⟨rfl, by (subst ho1; first | with_reducible rfl | (simp [oI, mR, wd_w_row, row_self, row_row]; done) | (simp_all [oI, mR, wd_w_row, row_self, row_row]; done))⟩
theorem tl_X8_lv1 {ad : Nat → Nat → Nat → Nat} {o : wd_S} {n m : Nat} (G : cg (o.1 8) n m) {l : Nat} (hl : l < 5) {e : Nat} (he : e < 16) : AW ad MX8_leaves 41 [some (.ref (ad 14 0 0)), some (.int (nI l)), some (.int (nI e)), none] [] o 0 0 (RT none (wd_row o 8 (mf_comes (upd (o.1 8) (101 + 8 * e + 7) 0) l 5 (nI e) (-1) (-1)))) := by
  obtain ⟨g1, g2, g3, g4, g5, g6⟩ := id G
  refine aw_iload_n (x := (nI e)) rfl dX8_leaves_41 ?_
  refine aw_iconst (v := (-1)) (by decide) dX8_leaves_42 ?_
  refine aw_icmp_ne (tgt := 58) (by decide) dX8_leaves_43 (fun _ => ?_) (fun z => absurd z (nI_m1 (by omega)))
  refine aw_aload_n (x := ad 14 0 0) rfl dX8_leaves_58 ?_
  refine aw_iload_n (x := (nI e)) rfl dX8_leaves_59 ?_
  refine aw_bipush (v := 6) (by decide) dX8_leaves_60 ?_
  refine aw_iconst (v := 0) (by decide) dX8_leaves_62 ?_
  refine aw_rV (As := [.int (nI e), .int 6, .int 0]) (S := []) (v := none) (o2 := (wd_w o 8 (101 + 8 * e + 7) 0)) (ct_X8_give (s := e) (w := 6) (by omega) (by decide)) (mm_fit_of cbX8_give (by decide) (by decide)) wq953 cvX8_give wv14 rfl rfl rfl (Nat.le_of_ble_eq_true rfl) (by decide) (by decide) rfl dX8_leaves_63 ?_
  refine aw_aload_n (x := ad 14 0 0) rfl dX8_leaves_66 ?_
  refine aw_iload_n (x := (nI l)) rfl dX8_leaves_67 ?_
  refine aw_iconst (v := 5) (by decide) dX8_leaves_68 ?_
  refine aw_iload_n (x := (nI e)) rfl dX8_leaves_69 ?_
  refine aw_iconst (v := (-1)) (by decide) dX8_leaves_70 ?_
  refine aw_iconst (v := (-1)) (by decide) dX8_leaves_71 ?_
  obtain ⟨o1, ho1⟩ : ∃ z, z = (wd_w o 8 (101 + 8 * e + 7) 0) := ⟨_, rfl⟩
  rw [← ho1]
  have Go1 : cg (o1.1 8) n m := by rw [ho1]; simp only [wd_w_row, row_self]; exact cg_upd (G) (by omega) (by omega) (fun _ _ => ⟨by omega, by omega⟩)
  refine aw_rV (As := [.int (nI l), .int 5, .int (nI e), .int (-1), .int (-1)]) (S := []) (v := none) (o2 := (wd_row o1 8 (mf_comes (o1.1 8) l 5 (nI e) (-1) (-1)))) (ct_X8_comes (by omega)) (mm_fit_of cbX8_comes (by decide) (by decide)) wq1013 cvX8_comes wv14 rfl rfl rfl (Nat.le_of_ble_eq_true rfl) (by decide) (by decide) rfl dX8_leaves_72 ?_
  obtain ⟨o2, ho2⟩ : ∃ z, z = (wd_row o1 8 (mf_comes (o1.1 8) l 5 (nI e) (-1) (-1))) := ⟨_, rfl⟩
  rw [← ho2]
  have Go2 : cg (o2.1 8) n m := by rw [ho2]; rw [row_self]; exact cg_stl (stl_comes (by omega)) Go1
  exact aw_vret rfl (by decide) (by decide) dX8_leaves_75 ⟨rfl, by (subst ho2; subst ho1; first | with_reducible rfl | (simp [oI, mR, wd_w_row, row_self, row_row]; done) | (simp_all [oI, mR, wd_w_row, row_self, row_row]; done))⟩
theorem ct_X8_leaves {ad : Nat → Nat → Nat → Nat} {o : wd_S} {n m : Nat} (G : cg (o.1 8) n m) {l : Nat} (hl : l < 5) : CT ad MX8_leaves [.ref (ad 14 0 0), .int (nI l)] o (RT none (wd_row o 8 (mf_leave (o.1 8) m l))) := by
  obtain ⟨g1, g2, g3, g4, g5, g6⟩ := id G
  refine CT.of (L := [some (.ref (ad 14 0 0)), some (.int (nI l)), none, none]) rfl rfl (by decide) (Nat.le_of_ble_eq_true rfl) rfl ?_
  refine aw_iconst (v := (-1)) (by decide) dX8_leaves_0 ?_
  refine aw_istore_n (L2 := [some (.ref (ad 14 0 0)), some (.int (nI l)), some (.int (-1)), none]) (by decide) rfl rfl dX8_leaves_1 ?_
  refine aw_aload_n (x := ad 14 0 0) rfl dX8_leaves_2 ?_
  refine aw_getr (q := (15, 0, 0)) wv14 rfl flX8_7 rfl rfl dX8_leaves_3 ?_
  refine aw_bipush (v := 101) (by decide) dX8_leaves_6 ?_
  refine aw_ild (x := 101) (q := (8, 101)) (y := nI m) (by decide) (wv15 (by decide)) rfl G.2.2.1 (Nat.le_of_ble_eq_true rfl) rfl dX8_leaves_8 ?_
  refine aw_iconst (v := 1) (by decide) dX8_leaves_9 ?_
  refine aw_isubz (z := (nI m) - 1) rfl dX8_leaves_10 ?_
  refine aw_istore_n (L2 := [some (.ref (ad 14 0 0)), some (.int (nI l)), some (.int (-1)), some (.int ((nI m) - 1))]) (by decide) rfl rfl dX8_leaves_11 ?_
  refine AW.locs (lp_X8_lv hl m o (-1) g4 G ?_) (lsub_keep (lsub_keep (lsub_keep (lsub_keep lsub_nil))))
  have Gv : cg ((wd_row o 8 (mf_lv l m (o.1 8) (-1)).1).1 8) n m := by rw [row_self]; exact cg_stl (stl_lv _ _ _) G
  rcases lv_ok (l := l) m (o.1 8) (-1) with h | ⟨e, h1, h2⟩
  · have t := tl_X8_lv0 (ad := ad) Gv hl
    rw [h]
    simpa [mf_leave, h, row_self, row_row] using t
  · have t := tl_X8_lv1 (ad := ad) Gv hl (show e < 16 by omega)
    rw [h2]
    simpa [mf_leave, h2, nI_m1 (show e < 2 ^ 31 by omega), nI_clamp (show e < 2 ^ 31 by omega), row_self, row_row] using t
def mf_far (N : Nat → Int32) (l e : Nat) : Nat → Int32 := if N (20 * l + 5) = -1 then N else if N (20 * e + 1) = 3 then mf_comes N e 0 (-1) (-1) (-1) else mf_comes N e 5 (N (20 * e + 3)) (-1) (-1)
def mf_end (N : Nat → Int32) (m l e : Nat) : Nat → Int32 := mf_leave (mf_far N l e) m l
theorem stl_mfar {N : Nat → Int32} {l e : Nat} (he : N (20 * l + 5) = -1 ∨ e < 5) : stl N (mf_far N l e) := by
  unfold mf_far
  split
  · exact stl.rfl'
  · rename_i h
    have he := he.resolve_left h
    split
    · exact stl_comes he
    · exact stl_comes he
theorem stl_mend2 {N : Nat → Int32} {m l e : Nat} (hl : l < 5) (he : N (20 * l + 5) = -1 ∨ e < 5) : stl N (mf_end N m l e) := (stl_mfar he).trans (stl_mleave hl)
theorem ct_X8_ends_n {ad : Nat → Nat → Nat → Nat} {o : wd_S} {n m : Nat} (G : cg (o.1 8) n m) {l : Nat} (hl : l < 5) {e : Nat} (he : o.1 8 (20 * l + 5) = -1) : CT ad MX8_ends [.ref (ad 14 0 0), .int (nI l)] o (RT none (wd_row o 8 (mf_end (o.1 8) m l e))) := by
  obtain ⟨g1, g2, g3, g4, g5, g6⟩ := id G
  refine CT.of (L := [some (.ref (ad 14 0 0)), some (.int (nI l)), none, none]) rfl rfl (by decide) (Nat.le_of_ble_eq_true rfl) rfl ?_
  refine aw_aload_n (x := ad 14 0 0) rfl dX8_ends_0 ?_
  refine aw_iload_n (x := (nI l)) rfl dX8_ends_1 ?_
  refine aw_iconst (v := 4) (by decide) dX8_ends_2 ?_
  refine aw_rV (As := [.int (nI l), .int 4]) (S := []) (v := some (.int (-1))) (o2 := o) (RTv (ct_X8_of (l := l) (w := 4) (by omega) (by decide)) he) (mm_fit_of cbX8_of (by decide) (by decide)) wq969 cvX8_of wv14 rfl rfl rfl (Nat.le_of_ble_eq_true rfl) (by decide) (by decide) rfl dX8_ends_3 ?_
  refine aw_istore_n (L2 := [some (.ref (ad 14 0 0)), some (.int (nI l)), some (.int (-1)), none]) (by decide) rfl rfl dX8_ends_6 ?_
  refine aw_iload_n (x := (-1)) rfl dX8_ends_7 ?_
  refine aw_iconst (v := (-1)) (by decide) dX8_ends_8 ?_
  refine aw_icmp_eq (tgt := 58) (by decide) dX8_ends_9 (fun _ => ?_) (fun z => absurd z (by decide))
  refine aw_aload_n (x := ad 14 0 0) rfl dX8_ends_58 ?_
  refine aw_iload_n (x := (nI l)) rfl dX8_ends_59 ?_
  refine aw_rV (As := [.int (nI l)]) (S := []) (v := none) (o2 := (wd_row o 8 (mf_leave (o.1 8) m l))) (ct_X8_leaves G hl) (mm_fit_of cbX8_leaves (by decide) (by decide)) wq1037 cvX8_leaves wv14 rfl rfl rfl (Nat.le_of_ble_eq_true rfl) (by decide) (by decide) rfl dX8_ends_60 ?_
  exact aw_vret rfl (by decide) (by decide) dX8_ends_63 ⟨rfl, by (first | with_reducible rfl | (simp [mf_end, mf_far, he, oI, mR, wd_w_row, row_self, row_row]; done) | (simp_all [mf_end, mf_far, he, oI, mR, wd_w_row, row_self, row_row]; done))⟩
theorem ct_X8_ends_s {ad : Nat → Nat → Nat → Nat} {o : wd_S} {n m : Nat} (G : cg (o.1 8) n m) {l : Nat} (hl : l < 5) {e : Nat} (he5 : e < 5) (he : o.1 8 (20 * l + 5) = nI e) : CT ad MX8_ends [.ref (ad 14 0 0), .int (nI l)] o (RT none (wd_row o 8 (mf_end (o.1 8) m l e))) := by
  obtain ⟨g1, g2, g3, g4, g5, g6⟩ := id G
  refine CT.of (L := [some (.ref (ad 14 0 0)), some (.int (nI l)), none, none]) rfl rfl (by decide) (Nat.le_of_ble_eq_true rfl) rfl ?_
  refine aw_aload_n (x := ad 14 0 0) rfl dX8_ends_0 ?_
  refine aw_iload_n (x := (nI l)) rfl dX8_ends_1 ?_
  refine aw_iconst (v := 4) (by decide) dX8_ends_2 ?_
  refine aw_rV (As := [.int (nI l), .int 4]) (S := []) (v := some (.int (nI e))) (o2 := o) (RTv (ct_X8_of (l := l) (w := 4) (by omega) (by decide)) he) (mm_fit_of cbX8_of (by decide) (by decide)) wq969 cvX8_of wv14 rfl rfl rfl (Nat.le_of_ble_eq_true rfl) (by decide) (by decide) rfl dX8_ends_3 ?_
  refine aw_istore_n (L2 := [some (.ref (ad 14 0 0)), some (.int (nI l)), some (.int (nI e)), none]) (by decide) rfl rfl dX8_ends_6 ?_
  refine aw_iload_n (x := (nI e)) rfl dX8_ends_7 ?_
  refine aw_iconst (v := (-1)) (by decide) dX8_ends_8 ?_
  refine aw_icmp_eq (tgt := 58) (by decide) dX8_ends_9 (fun z => absurd z (nI_m1 (by omega))) (fun _ => ?_)
  refine aw_aload_n (x := ad 14 0 0) rfl dX8_ends_12 ?_
  refine aw_iload_n (x := (nI e)) rfl dX8_ends_13 ?_
  refine aw_iconst (v := 0) (by decide) dX8_ends_14 ?_
  refine aw_rV (As := [.int (nI e), .int 0]) (S := []) (v := some (.int (o.1 8 (20 * e + 1)))) (o2 := o) (ct_X8_of (l := e) (w := 0) (by omega) (by decide)) (mm_fit_of cbX8_of (by decide) (by decide)) wq969 cvX8_of wv14 rfl rfl rfl (Nat.le_of_ble_eq_true rfl) (by decide) (by decide) rfl dX8_ends_15 ?_
  refine aw_iconst (v := 3) (by decide) dX8_ends_18 ?_
  refine aw_icmp_ne (tgt := 26) (by decide) dX8_ends_19 (fun b1 => ?_) (fun b1 => ?_)
  · skip
    refine aw_iconst (v := 0) (by decide) dX8_ends_26 ?_
    refine aw_istore_n (L2 := [some (.ref (ad 14 0 0)), some (.int (nI l)), some (.int (nI e)), some (.int 0)]) (by decide) rfl rfl dX8_ends_27 ?_
    refine aw_aload_n (x := ad 14 0 0) rfl dX8_ends_28 ?_
    refine aw_iload_n (x := (nI e)) rfl dX8_ends_29 ?_
    refine aw_iload_n (x := 0) rfl dX8_ends_30 ?_
    refine aw_if_eq (tgt := 38) (by decide) dX8_ends_31 (fun _ => ?_) (fun z => absurd z (by decide))
    refine aw_iconst (v := 5) (by decide) dX8_ends_38 ?_
    refine aw_iload_n (x := 0) rfl dX8_ends_39 ?_
    refine aw_if_eq (tgt := 47) (by decide) dX8_ends_40 (fun _ => ?_) (fun z => absurd z (by decide))
    refine aw_aload_n (x := ad 14 0 0) rfl dX8_ends_47 ?_
    refine aw_iload_n (x := (nI e)) rfl dX8_ends_48 ?_
    refine aw_iconst (v := 2) (by decide) dX8_ends_49 ?_
    refine aw_rV (As := [.int (nI e), .int 2]) (S := [.int 5, .int (nI e), .ref (ad 14 0 0)]) (v := some (.int (o.1 8 (20 * e + 3)))) (o2 := o) (ct_X8_of (l := e) (w := 2) (by omega) (by decide)) (mm_fit_of cbX8_of (by decide) (by decide)) wq969 cvX8_of wv14 rfl rfl rfl (Nat.le_of_ble_eq_true rfl) (by decide) (by decide) rfl dX8_ends_50 ?_
    refine aw_iconst (v := (-1)) (by decide) dX8_ends_53 ?_
    refine aw_iconst (v := (-1)) (by decide) dX8_ends_54 ?_
    refine aw_rV (As := [.int (nI e), .int 5, .int (o.1 8 (20 * e + 3)), .int (-1), .int (-1)]) (S := []) (v := none) (o2 := (wd_row o 8 (mf_comes (o.1 8) e 5 (o.1 8 (20 * e + 3)) (-1) (-1)))) (ct_X8_comes (by omega)) (mm_fit_of cbX8_comes (by decide) (by decide)) wq1013 cvX8_comes wv14 rfl rfl rfl (Nat.le_of_ble_eq_true rfl) (by decide) (by decide) rfl dX8_ends_55 ?_
    obtain ⟨o1, ho1⟩ : ∃ z, z = (wd_row o 8 (mf_comes (o.1 8) e 5 (o.1 8 (20 * e + 3)) (-1) (-1))) := ⟨_, rfl⟩
    rw [← ho1]
    have Go1 : cg (o1.1 8) n m := by rw [ho1]; rw [row_self]; exact cg_stl (stl_comes (by omega)) G
    refine aw_aload_n (x := ad 14 0 0) rfl dX8_ends_58 ?_
    refine aw_iload_n (x := (nI l)) rfl dX8_ends_59 ?_
    refine aw_rV (As := [.int (nI l)]) (S := []) (v := none) (o2 := (wd_row o1 8 (mf_leave (o1.1 8) m l))) (ct_X8_leaves Go1 hl) (mm_fit_of cbX8_leaves (by decide) (by decide)) wq1037 cvX8_leaves wv14 rfl rfl rfl (Nat.le_of_ble_eq_true rfl) (by decide) (by decide) rfl dX8_ends_60 ?_
    exact aw_vret rfl (by decide) (by decide) dX8_ends_63 ⟨rfl, by (subst ho1; first | with_reducible rfl | (simp [mf_end, mf_far, he, nI_m1 (show e < 2 ^ 31 by omega), oI, mR, wd_w_row, row_self, row_row, b1]; done) | (simp_all [mf_end, mf_far, he, nI_m1 (show e < 2 ^ 31 by omega), oI, mR, wd_w_row, row_self, row_row, b1]; done))⟩
  · skip
    refine aw_iconst (v := 1) (by decide) dX8_ends_22 ?_
    refine aw_goto (tgt := 27) (by decide) dX8_ends_23 ?_
    refine aw_istore_n (L2 := [some (.ref (ad 14 0 0)), some (.int (nI l)), some (.int (nI e)), some (.int 1)]) (by decide) rfl rfl dX8_ends_27 ?_
    refine aw_aload_n (x := ad 14 0 0) rfl dX8_ends_28 ?_
    refine aw_iload_n (x := (nI e)) rfl dX8_ends_29 ?_
    refine aw_iload_n (x := 1) rfl dX8_ends_30 ?_
    refine aw_if_eq (tgt := 38) (by decide) dX8_ends_31 (fun z => absurd z (by decide)) (fun _ => ?_)
    refine aw_iconst (v := 0) (by decide) dX8_ends_34 ?_
    refine aw_goto (tgt := 39) (by decide) dX8_ends_35 ?_
    refine aw_iload_n (x := 1) rfl dX8_ends_39 ?_
    refine aw_if_eq (tgt := 47) (by decide) dX8_ends_40 (fun z => absurd z (by decide)) (fun _ => ?_)
    refine aw_iconst (v := (-1)) (by decide) dX8_ends_43 ?_
    refine aw_goto (tgt := 53) (by decide) dX8_ends_44 ?_
    refine aw_iconst (v := (-1)) (by decide) dX8_ends_53 ?_
    refine aw_iconst (v := (-1)) (by decide) dX8_ends_54 ?_
    refine aw_rV (As := [.int (nI e), .int 0, .int (-1), .int (-1), .int (-1)]) (S := []) (v := none) (o2 := (wd_row o 8 (mf_comes (o.1 8) e 0 (-1) (-1) (-1)))) (ct_X8_comes (by omega)) (mm_fit_of cbX8_comes (by decide) (by decide)) wq1013 cvX8_comes wv14 rfl rfl rfl (Nat.le_of_ble_eq_true rfl) (by decide) (by decide) rfl dX8_ends_55 ?_
    obtain ⟨o2, ho2⟩ : ∃ z, z = (wd_row o 8 (mf_comes (o.1 8) e 0 (-1) (-1) (-1))) := ⟨_, rfl⟩
    rw [← ho2]
    have Go2 : cg (o2.1 8) n m := by rw [ho2]; rw [row_self]; exact cg_stl (stl_comes (by omega)) G
    refine aw_aload_n (x := ad 14 0 0) rfl dX8_ends_58 ?_
    refine aw_iload_n (x := (nI l)) rfl dX8_ends_59 ?_
    refine aw_rV (As := [.int (nI l)]) (S := []) (v := none) (o2 := (wd_row o2 8 (mf_leave (o2.1 8) m l))) (ct_X8_leaves Go2 hl) (mm_fit_of cbX8_leaves (by decide) (by decide)) wq1037 cvX8_leaves wv14 rfl rfl rfl (Nat.le_of_ble_eq_true rfl) (by decide) (by decide) rfl dX8_ends_60 ?_
    exact aw_vret rfl (by decide) (by decide) dX8_ends_63 ⟨rfl, by (subst ho2; first | with_reducible rfl | (simp [mf_end, mf_far, he, nI_m1 (show e < 2 ^ 31 by omega), oI, mR, wd_w_row, row_self, row_row, b1]; done) | (simp_all [mf_end, mf_far, he, nI_m1 (show e < 2 ^ 31 by omega), oI, mR, wd_w_row, row_self, row_row, b1]; done))⟩
theorem ct_X8_ends {ad : Nat → Nat → Nat → Nat} {o : wd_S} {n m : Nat} (G : cg (o.1 8) n m) {l : Nat} (hl : l < 5) {e : Nat} (he : o.1 8 (20 * l + 5) = -1 ∨ (e < 5 ∧ o.1 8 (20 * l + 5) = nI e)) : CT ad MX8_ends [.ref (ad 14 0 0), .int (nI l)] o (RT none (wd_row o 8 (mf_end (o.1 8) m l e))) := by
  rcases he with h | ⟨h1, h2⟩
  · exact ct_X8_ends_n G hl h
  · exact ct_X8_ends_s G hl h1 h2
/-- a number of a thing, or none -/
def ok (n : Nat) (x : Int32) : Prop := x = -1 ∨ ∃ e, e < n ∧ x = nI e
def mf_pv (N : Nat → Int32) (m : Nat) (x : Int32) : Int32 := match lk m x with
  | none => 0
  | some e => if N (101 + 8 * e + 4) = 1 then 1 else 0
theorem ct_X8_isPrivate {ad : Nat → Nat → Nat → Nat} {o : wd_S} {m : Nat} (hm : m ≤ 16) {x : Int32} (hx : ok m x) : CT ad MX8_isPrivate [.ref (ad 14 0 0), .int x] o (RT (some (.int (mf_pv (o.1 8) m x))) o) := by
  rcases hx with rfl | ⟨e, he, rfl⟩
  · have : mf_pv (o.1 8) m (-1) = 0 := by simp [mf_pv, lk_m1]
    rw [this]; exact ct_X8_isPrivate_n
  · have : mf_pv (o.1 8) m (nI e) = if o.1 8 (101 + 8 * e + 4) = 1 then 1 else 0 := by simp [mf_pv, lk_nI he hm]
    rw [this]; exact ct_X8_isPrivate_s (by omega)
def mf_lifts (N : Nat → Int32) (m l s e : Nat) : Nat → Int32 :=
  let N1 := upd (upd N (101 + 8 * s + 6) 1) (101 + 8 * s + 7) 0
  if mf_cut N1 l s = 0 then
    (if N (20 * l + 1) = 0 then mf_comes N1 l 1 (nI s) (-1) (-1)
     else if N (20 * l + 1) = 3 then cs_inc (upd (mf_comes (mf_comes N1 l 4 (nI s) (-1) (nI e)) e 4 (mf_comes N1 l 4 (nI s) (-1) (nI e) (20 * e + 3)) (-1) (nI l)) (20 * e + 6) 1) 231
     else if N (20 * l + 1) = 7 then (if nI s = N (20 * l + 3) then mf_comes N1 l 1 (nI s) (-1) (-1) else cs_inc (mf_comes N1 l 8 (N (20 * l + 3)) (nI s) (-1)) 232)
     else if N (20 * l + 1) = 8 ∧ nI s = N (20 * l + 3) then N1
     else if (N (20 * l + 1) = 4 ∨ N (20 * l + 1) = 8) ∧ (mf_pv N1 m (N (20 * l + 3)) ≠ 0 ∨ mf_pv N1 m (N1 (20 * l + 4)) ≠ 0) then cs_inc (upd N1 (101 + 8 * s + 7) 4) 236 else cs_inc (upd N1 (101 + 8 * s + 7) 3) 235)
  else N1
theorem ct_X8_lifts_0 {ad : Nat → Nat → Nat → Nat} {o : wd_S} {n m : Nat} (G : cg (o.1 8) n m) {l s e : Nat} (hl : l < 5) (hs : s < m) (hh : o.1 8 (101 + 8 * s + 1) = nI l) (hf : ok m (o.1 8 (20 * l + 3))) (hq : ok m (o.1 8 (20 * l + 4))) (hp : o.1 8 (20 * l + 1) = 0) : CT ad MX8_lifts [.ref (ad 14 0 0), .int (nI s)] o (RT none (wd_row o 8 (mf_lifts (o.1 8) m l s e))) := by
  obtain ⟨g1, g2, g3, g4, g5, g6⟩ := id G
  have hs16 : s < 16 := by omega
  refine CT.of (L := [some (.ref (ad 14 0 0)), some (.int (nI s)), none, none, none, none]) rfl rfl (by decide) (Nat.le_of_ble_eq_true rfl) rfl ?_
  refine aw_aload_n (x := ad 14 0 0) rfl dX8_lifts_0 ?_
  refine aw_iload_n (x := (nI s)) rfl dX8_lifts_1 ?_
  refine aw_iconst (v := 0) (by decide) dX8_lifts_2 ?_
  refine aw_rV (As := [.int (nI s), .int 0]) (S := []) (v := some (.int (nI l))) (o2 := o) (RTv (ct_X8_its (s := s) (w := 0) (by omega) (by decide)) hh) (mm_fit_of cbX8_its (by decide) (by decide)) wq949 cvX8_its wv14 rfl rfl rfl (Nat.le_of_ble_eq_true rfl) (by decide) (by decide) rfl dX8_lifts_3 ?_
  refine aw_istore_n (L2 := [some (.ref (ad 14 0 0)), some (.int (nI s)), some (.int (nI l)), none, none, none]) (by decide) rfl rfl dX8_lifts_6 ?_
  refine aw_aload_n (x := ad 14 0 0) rfl dX8_lifts_7 ?_
  refine aw_iload_n (x := (nI l)) rfl dX8_lifts_8 ?_
  refine aw_iconst (v := 0) (by decide) dX8_lifts_9 ?_
  refine aw_rV (As := [.int (nI l), .int 0]) (S := []) (v := some (.int 0)) (o2 := o) (RTv (ct_X8_of (l := l) (w := 0) (by omega) (by decide)) hp) (mm_fit_of cbX8_of (by decide) (by decide)) wq969 cvX8_of wv14 rfl rfl rfl (Nat.le_of_ble_eq_true rfl) (by decide) (by decide) rfl dX8_lifts_10 ?_
  refine aw_istore_n (L2 := [some (.ref (ad 14 0 0)), some (.int (nI s)), some (.int (nI l)), some (.int 0), none, none]) (by decide) rfl rfl dX8_lifts_13 ?_
  refine aw_aload_n (x := ad 14 0 0) rfl dX8_lifts_14 ?_
  refine aw_iload_n (x := (nI l)) rfl dX8_lifts_15 ?_
  refine aw_iconst (v := 2) (by decide) dX8_lifts_16 ?_
  refine aw_rV (As := [.int (nI l), .int 2]) (S := []) (v := some (.int (o.1 8 (20 * l + 3)))) (o2 := o) (ct_X8_of (l := l) (w := 2) (by omega) (by decide)) (mm_fit_of cbX8_of (by decide) (by decide)) wq969 cvX8_of wv14 rfl rfl rfl (Nat.le_of_ble_eq_true rfl) (by decide) (by decide) rfl dX8_lifts_17 ?_
  refine aw_istore (L2 := [some (.ref (ad 14 0 0)), some (.int (nI s)), some (.int (nI l)), some (.int 0), some (.int (o.1 8 (20 * l + 3))), none]) (by decide) rfl rfl dX8_lifts_20 ?_
  refine aw_aload_n (x := ad 14 0 0) rfl dX8_lifts_22 ?_
  refine aw_iload_n (x := (nI s)) rfl dX8_lifts_23 ?_
  refine aw_iconst (v := 5) (by decide) dX8_lifts_24 ?_
  refine aw_iconst (v := 1) (by decide) dX8_lifts_25 ?_
  refine aw_rV (As := [.int (nI s), .int 5, .int 1]) (S := []) (v := none) (o2 := (wd_w o 8 (101 + 8 * s + 6) 1)) (ct_X8_give (s := s) (w := 5) (by omega) (by decide)) (mm_fit_of cbX8_give (by decide) (by decide)) wq953 cvX8_give wv14 rfl rfl rfl (Nat.le_of_ble_eq_true rfl) (by decide) (by decide) rfl dX8_lifts_26 ?_
  refine aw_aload_n (x := ad 14 0 0) rfl dX8_lifts_29 ?_
  refine aw_iload_n (x := (nI s)) rfl dX8_lifts_30 ?_
  refine aw_bipush (v := 6) (by decide) dX8_lifts_31 ?_
  refine aw_iconst (v := 0) (by decide) dX8_lifts_33 ?_
  refine aw_rV (As := [.int (nI s), .int 6, .int 0]) (S := []) (v := none) (o2 := (wd_w (wd_w o 8 (101 + 8 * s + 6) 1) 8 (101 + 8 * s + 7) 0)) (ct_X8_give (s := s) (w := 6) (by omega) (by decide)) (mm_fit_of cbX8_give (by decide) (by decide)) wq953 cvX8_give wv14 rfl rfl rfl (Nat.le_of_ble_eq_true rfl) (by decide) (by decide) rfl dX8_lifts_34 ?_
  refine aw_aload_n (x := ad 14 0 0) rfl dX8_lifts_37 ?_
  refine aw_iload_n (x := (nI s)) rfl dX8_lifts_38 ?_
  obtain ⟨o1, ho1⟩ : ∃ z, z = (wd_w (wd_w o 8 (101 + 8 * s + 6) 1) 8 (101 + 8 * s + 7) 0) := ⟨_, rfl⟩
  rw [← ho1]
  have Go1 : cg (o1.1 8) n m := by rw [ho1]; simp only [wd_w_row, row_self]; exact cg_upd (cg_upd (G) (by omega) (by omega) (fun _ _ => ⟨by omega, by omega⟩)) (by omega) (by omega) (fun _ _ => ⟨by omega, by omega⟩)
  have hho1 : o1.1 8 (101 + 8 * s + 1) = nI l := by rw [ho1]; simp only [wd_w_row, row_self]; rw [upd_ne _ _ (by omega)]; rw [upd_ne _ _ (by omega)]; exact hh
  have hpo1 : o1.1 8 (20 * l + 1) = 0 := by rw [ho1]; simp only [wd_w_row, row_self]; rw [upd_ne _ _ (by omega)]; rw [upd_ne _ _ (by omega)]; exact hp
  refine aw_rV (As := [.int (nI s)]) (S := []) (v := some (.int (mf_cut (o1.1 8) l s))) (o2 := o1) (ct_X8_cut Go1 hl (by omega) hho1) (mm_fit_of cbX8_cut (by decide) (by decide)) wq993 cvX8_cut wv14 rfl rfl rfl (Nat.le_of_ble_eq_true rfl) (by decide) (by decide) rfl dX8_lifts_39 ?_
  refine aw_if_eq (tgt := 46) (by decide) dX8_lifts_42 (fun b1 => ?_) (fun b1 => ?_)
  · skip
    refine aw_iload_n (x := 0) rfl dX8_lifts_46 ?_
    refine aw_if_ne (tgt := 62) (by decide) dX8_lifts_47 (fun z => absurd z (by decide)) (fun _ => ?_)
    refine aw_aload_n (x := ad 14 0 0) rfl dX8_lifts_50 ?_
    refine aw_iload_n (x := (nI l)) rfl dX8_lifts_51 ?_
    refine aw_iconst (v := 1) (by decide) dX8_lifts_52 ?_
    refine aw_iload_n (x := (nI s)) rfl dX8_lifts_53 ?_
    refine aw_iconst (v := (-1)) (by decide) dX8_lifts_54 ?_
    refine aw_iconst (v := (-1)) (by decide) dX8_lifts_55 ?_
    refine aw_rV (As := [.int (nI l), .int 1, .int (nI s), .int (-1), .int (-1)]) (S := []) (v := none) (o2 := (wd_row o1 8 (mf_comes (o1.1 8) l 1 (nI s) (-1) (-1)))) (ct_X8_comes (by omega)) (mm_fit_of cbX8_comes (by decide) (by decide)) wq1013 cvX8_comes wv14 rfl rfl rfl (Nat.le_of_ble_eq_true rfl) (by decide) (by decide) rfl dX8_lifts_56 ?_
    obtain ⟨o2, ho2⟩ : ∃ z, z = (wd_row o1 8 (mf_comes (o1.1 8) l 1 (nI s) (-1) (-1))) := ⟨_, rfl⟩
    rw [← ho2]
    have Go2 : cg (o2.1 8) n m := by rw [ho2]; rw [row_self]; exact cg_stl (stl_comes (by omega)) Go1
    have hho1o2 : o2.1 8 (101 + 8 * s + 1) = nI l := by rw [ho2]; rw [row_self]; rw [mcomes_ne (by omega)]; exact hho1
    refine aw_goto (tgt := 272) (by decide) dX8_lifts_59 ?_
    exact aw_vret rfl (by decide) (by decide) dX8_lifts_272 ⟨rfl, by (subst ho2; subst ho1; first | with_reducible rfl | (simp [mf_lifts, hp, cs_inc, oI, mR, wd_w_row, row_self, row_row, b1]; done) | (simp_all [mf_lifts, hp, cs_inc, oI, mR, wd_w_row, row_self, row_row, b1]; done))⟩
  · skip
    exact aw_vret rfl (by decide) (by decide) dX8_lifts_45 ⟨rfl, by (subst ho1; first | with_reducible rfl | (simp [mf_lifts, hp, cs_inc, oI, mR, wd_w_row, row_self, row_row, b1]; done) | (simp_all [mf_lifts, hp, cs_inc, oI, mR, wd_w_row, row_self, row_row, b1]; done))⟩
theorem ct_X8_lifts_1 {ad : Nat → Nat → Nat → Nat} {o : wd_S} {n m : Nat} (G : cg (o.1 8) n m) {l s e : Nat} (hl : l < 5) (hs : s < m) (hh : o.1 8 (101 + 8 * s + 1) = nI l) (hf : ok m (o.1 8 (20 * l + 3))) (hq : ok m (o.1 8 (20 * l + 4))) (hp : o.1 8 (20 * l + 1) = 1) : CT ad MX8_lifts [.ref (ad 14 0 0), .int (nI s)] o (RT none (wd_row o 8 (mf_lifts (o.1 8) m l s e))) := by
  obtain ⟨g1, g2, g3, g4, g5, g6⟩ := id G
  have hs16 : s < 16 := by omega
  refine CT.of (L := [some (.ref (ad 14 0 0)), some (.int (nI s)), none, none, none, none]) rfl rfl (by decide) (Nat.le_of_ble_eq_true rfl) rfl ?_
  refine aw_aload_n (x := ad 14 0 0) rfl dX8_lifts_0 ?_
  refine aw_iload_n (x := (nI s)) rfl dX8_lifts_1 ?_
  refine aw_iconst (v := 0) (by decide) dX8_lifts_2 ?_
  refine aw_rV (As := [.int (nI s), .int 0]) (S := []) (v := some (.int (nI l))) (o2 := o) (RTv (ct_X8_its (s := s) (w := 0) (by omega) (by decide)) hh) (mm_fit_of cbX8_its (by decide) (by decide)) wq949 cvX8_its wv14 rfl rfl rfl (Nat.le_of_ble_eq_true rfl) (by decide) (by decide) rfl dX8_lifts_3 ?_
  refine aw_istore_n (L2 := [some (.ref (ad 14 0 0)), some (.int (nI s)), some (.int (nI l)), none, none, none]) (by decide) rfl rfl dX8_lifts_6 ?_
  refine aw_aload_n (x := ad 14 0 0) rfl dX8_lifts_7 ?_
  refine aw_iload_n (x := (nI l)) rfl dX8_lifts_8 ?_
  refine aw_iconst (v := 0) (by decide) dX8_lifts_9 ?_
  refine aw_rV (As := [.int (nI l), .int 0]) (S := []) (v := some (.int 1)) (o2 := o) (RTv (ct_X8_of (l := l) (w := 0) (by omega) (by decide)) hp) (mm_fit_of cbX8_of (by decide) (by decide)) wq969 cvX8_of wv14 rfl rfl rfl (Nat.le_of_ble_eq_true rfl) (by decide) (by decide) rfl dX8_lifts_10 ?_
  refine aw_istore_n (L2 := [some (.ref (ad 14 0 0)), some (.int (nI s)), some (.int (nI l)), some (.int 1), none, none]) (by decide) rfl rfl dX8_lifts_13 ?_
  refine aw_aload_n (x := ad 14 0 0) rfl dX8_lifts_14 ?_
  refine aw_iload_n (x := (nI l)) rfl dX8_lifts_15 ?_
  refine aw_iconst (v := 2) (by decide) dX8_lifts_16 ?_
  refine aw_rV (As := [.int (nI l), .int 2]) (S := []) (v := some (.int (o.1 8 (20 * l + 3)))) (o2 := o) (ct_X8_of (l := l) (w := 2) (by omega) (by decide)) (mm_fit_of cbX8_of (by decide) (by decide)) wq969 cvX8_of wv14 rfl rfl rfl (Nat.le_of_ble_eq_true rfl) (by decide) (by decide) rfl dX8_lifts_17 ?_
  refine aw_istore (L2 := [some (.ref (ad 14 0 0)), some (.int (nI s)), some (.int (nI l)), some (.int 1), some (.int (o.1 8 (20 * l + 3))), none]) (by decide) rfl rfl dX8_lifts_20 ?_
  refine aw_aload_n (x := ad 14 0 0) rfl dX8_lifts_22 ?_
  refine aw_iload_n (x := (nI s)) rfl dX8_lifts_23 ?_
  refine aw_iconst (v := 5) (by decide) dX8_lifts_24 ?_
  refine aw_iconst (v := 1) (by decide) dX8_lifts_25 ?_
  refine aw_rV (As := [.int (nI s), .int 5, .int 1]) (S := []) (v := none) (o2 := (wd_w o 8 (101 + 8 * s + 6) 1)) (ct_X8_give (s := s) (w := 5) (by omega) (by decide)) (mm_fit_of cbX8_give (by decide) (by decide)) wq953 cvX8_give wv14 rfl rfl rfl (Nat.le_of_ble_eq_true rfl) (by decide) (by decide) rfl dX8_lifts_26 ?_
  refine aw_aload_n (x := ad 14 0 0) rfl dX8_lifts_29 ?_
  refine aw_iload_n (x := (nI s)) rfl dX8_lifts_30 ?_
  refine aw_bipush (v := 6) (by decide) dX8_lifts_31 ?_
  refine aw_iconst (v := 0) (by decide) dX8_lifts_33 ?_
  refine aw_rV (As := [.int (nI s), .int 6, .int 0]) (S := []) (v := none) (o2 := (wd_w (wd_w o 8 (101 + 8 * s + 6) 1) 8 (101 + 8 * s + 7) 0)) (ct_X8_give (s := s) (w := 6) (by omega) (by decide)) (mm_fit_of cbX8_give (by decide) (by decide)) wq953 cvX8_give wv14 rfl rfl rfl (Nat.le_of_ble_eq_true rfl) (by decide) (by decide) rfl dX8_lifts_34 ?_
  refine aw_aload_n (x := ad 14 0 0) rfl dX8_lifts_37 ?_
  refine aw_iload_n (x := (nI s)) rfl dX8_lifts_38 ?_
  obtain ⟨o1, ho1⟩ : ∃ z, z = (wd_w (wd_w o 8 (101 + 8 * s + 6) 1) 8 (101 + 8 * s + 7) 0) := ⟨_, rfl⟩
  rw [← ho1]
  have Go1 : cg (o1.1 8) n m := by rw [ho1]; simp only [wd_w_row, row_self]; exact cg_upd (cg_upd (G) (by omega) (by omega) (fun _ _ => ⟨by omega, by omega⟩)) (by omega) (by omega) (fun _ _ => ⟨by omega, by omega⟩)
  have hho1 : o1.1 8 (101 + 8 * s + 1) = nI l := by rw [ho1]; simp only [wd_w_row, row_self]; rw [upd_ne _ _ (by omega)]; rw [upd_ne _ _ (by omega)]; exact hh
  have hpo1 : o1.1 8 (20 * l + 1) = 1 := by rw [ho1]; simp only [wd_w_row, row_self]; rw [upd_ne _ _ (by omega)]; rw [upd_ne _ _ (by omega)]; exact hp
  refine aw_rV (As := [.int (nI s)]) (S := []) (v := some (.int (mf_cut (o1.1 8) l s))) (o2 := o1) (ct_X8_cut Go1 hl (by omega) hho1) (mm_fit_of cbX8_cut (by decide) (by decide)) wq993 cvX8_cut wv14 rfl rfl rfl (Nat.le_of_ble_eq_true rfl) (by decide) (by decide) rfl dX8_lifts_39 ?_
  refine aw_if_eq (tgt := 46) (by decide) dX8_lifts_42 (fun b1 => ?_) (fun b1 => ?_)
  · skip
    refine aw_iload_n (x := 1) rfl dX8_lifts_46 ?_
    refine aw_if_ne (tgt := 62) (by decide) dX8_lifts_47 (fun _ => ?_) (fun z => absurd z (by decide))
    refine aw_iload_n (x := 1) rfl dX8_lifts_62 ?_
    refine aw_iconst (v := 3) (by decide) dX8_lifts_63 ?_
    refine aw_icmp_ne (tgt := 124) (by decide) dX8_lifts_64 (fun _ => ?_) (fun z => absurd z (by decide))
    refine aw_iload_n (x := 1) rfl dX8_lifts_124 ?_
    refine aw_bipush (v := 7) (by decide) dX8_lifts_125 ?_
    refine aw_icmp_ne (tgt := 148) (by decide) dX8_lifts_127 (fun _ => ?_) (fun z => absurd z (by decide))
    refine aw_iload_n (x := 1) rfl dX8_lifts_148 ?_
    refine aw_bipush (v := 7) (by decide) dX8_lifts_149 ?_
    refine aw_icmp_ne (tgt := 180) (by decide) dX8_lifts_151 (fun _ => ?_) (fun z => absurd z (by decide))
    refine aw_iload_n (x := 1) rfl dX8_lifts_180 ?_
    refine aw_bipush (v := 8) (by decide) dX8_lifts_181 ?_
    refine aw_icmp_ne (tgt := 192) (by decide) dX8_lifts_183 (fun _ => ?_) (fun z => absurd z (by decide))
    refine aw_iload_n (x := 1) rfl dX8_lifts_192 ?_
    refine aw_iconst (v := 4) (by decide) dX8_lifts_193 ?_
    refine aw_icmp_eq (tgt := 203) (by decide) dX8_lifts_194 (fun z => absurd z (by decide)) (fun _ => ?_)
    refine aw_iload_n (x := 1) rfl dX8_lifts_197 ?_
    refine aw_bipush (v := 8) (by decide) dX8_lifts_198 ?_
    refine aw_icmp_ne (tgt := 229) (by decide) dX8_lifts_200 (fun _ => ?_) (fun z => absurd z (by decide))
    refine aw_iconst (v := 0) (by decide) dX8_lifts_229 ?_
    refine aw_istore (L2 := [some (.ref (ad 14 0 0)), some (.int (nI s)), some (.int (nI l)), some (.int 1), some (.int (o.1 8 (20 * l + 3))), some (.int 0)]) (by decide) rfl rfl dX8_lifts_230 ?_
    refine aw_aload_n (x := ad 14 0 0) rfl dX8_lifts_232 ?_
    refine aw_iload_n (x := (nI s)) rfl dX8_lifts_233 ?_
    refine aw_bipush (v := 6) (by decide) dX8_lifts_234 ?_
    refine aw_iload (x := 0) rfl dX8_lifts_236 ?_
    refine aw_if_eq (tgt := 245) (by decide) dX8_lifts_238 (fun _ => ?_) (fun z => absurd z (by decide))
    refine aw_iconst (v := 3) (by decide) dX8_lifts_245 ?_
    refine aw_rV (As := [.int (nI s), .int 6, .int 3]) (S := []) (v := none) (o2 := (wd_w o1 8 (101 + 8 * s + 7) 3)) (ct_X8_give (s := s) (w := 6) (by omega) (by decide)) (mm_fit_of cbX8_give (by decide) (by decide)) wq953 cvX8_give wv14 rfl rfl rfl (Nat.le_of_ble_eq_true rfl) (by decide) (by decide) rfl dX8_lifts_246 ?_
    refine aw_aload_n (x := ad 14 0 0) rfl dX8_lifts_249 ?_
    refine aw_getr (q := (15, 0, 0)) wv14 rfl flX8_7 rfl rfl dX8_lifts_250 ?_
    refine aw_sipush (v := 231) (by decide) dX8_lifts_253 ?_
    refine aw_iload (x := 0) rfl dX8_lifts_256 ?_
    refine aw_if_eq (tgt := 265) (by decide) dX8_lifts_258 (fun _ => ?_) (fun z => absurd z (by decide))
    refine aw_iconst (v := 4) (by decide) dX8_lifts_265 ?_
    refine aw_iaddz (z := 235) (by decide) dX8_lifts_266 ?_
    refine aw_dup2 rfl rfl dX8_lifts_267 ?_
    refine aw_ild (x := 235) (q := (8, 235)) (y := (wd_w o1 8 (101 + 8 * s + 7) 3).1 8 235) (by decide) (wv15 (by decide)) rfl rfl (Nat.le_of_ble_eq_true rfl) rfl dX8_lifts_268 ?_
    refine aw_iconst (v := 1) (by decide) dX8_lifts_269 ?_
    refine aw_iaddz (z := ((wd_w o1 8 (101 + 8 * s + 7) 3).1 8 235) + 1) rfl dX8_lifts_270 ?_
    refine aw_ist (x := 235) (q := (8, 235)) (y := ((wd_w o1 8 (101 + 8 * s + 7) 3).1 8 235) + 1) (by decide) (wv15 (by decide)) rfl (Nat.le_of_ble_eq_true rfl) rfl dX8_lifts_271 ?_
    exact aw_vret rfl (by decide) (by decide) dX8_lifts_272 ⟨rfl, by (subst ho1; first | with_reducible rfl | (simp [mf_lifts, hp, cs_inc, oI, mR, wd_w_row, row_self, row_row, b1]; done) | (simp_all [mf_lifts, hp, cs_inc, oI, mR, wd_w_row, row_self, row_row, b1]; done))⟩
  · skip
    exact aw_vret rfl (by decide) (by decide) dX8_lifts_45 ⟨rfl, by (subst ho1; first | with_reducible rfl | (simp [mf_lifts, hp, cs_inc, oI, mR, wd_w_row, row_self, row_row, b1]; done) | (simp_all [mf_lifts, hp, cs_inc, oI, mR, wd_w_row, row_self, row_row, b1]; done))⟩
theorem ct_X8_lifts_2 {ad : Nat → Nat → Nat → Nat} {o : wd_S} {n m : Nat} (G : cg (o.1 8) n m) {l s e : Nat} (hl : l < 5) (hs : s < m) (hh : o.1 8 (101 + 8 * s + 1) = nI l) (hf : ok m (o.1 8 (20 * l + 3))) (hq : ok m (o.1 8 (20 * l + 4))) (hp : o.1 8 (20 * l + 1) = 2) : CT ad MX8_lifts [.ref (ad 14 0 0), .int (nI s)] o (RT none (wd_row o 8 (mf_lifts (o.1 8) m l s e))) := by
  obtain ⟨g1, g2, g3, g4, g5, g6⟩ := id G
  have hs16 : s < 16 := by omega
  refine CT.of (L := [some (.ref (ad 14 0 0)), some (.int (nI s)), none, none, none, none]) rfl rfl (by decide) (Nat.le_of_ble_eq_true rfl) rfl ?_
  refine aw_aload_n (x := ad 14 0 0) rfl dX8_lifts_0 ?_
  refine aw_iload_n (x := (nI s)) rfl dX8_lifts_1 ?_
  refine aw_iconst (v := 0) (by decide) dX8_lifts_2 ?_
  refine aw_rV (As := [.int (nI s), .int 0]) (S := []) (v := some (.int (nI l))) (o2 := o) (RTv (ct_X8_its (s := s) (w := 0) (by omega) (by decide)) hh) (mm_fit_of cbX8_its (by decide) (by decide)) wq949 cvX8_its wv14 rfl rfl rfl (Nat.le_of_ble_eq_true rfl) (by decide) (by decide) rfl dX8_lifts_3 ?_
  refine aw_istore_n (L2 := [some (.ref (ad 14 0 0)), some (.int (nI s)), some (.int (nI l)), none, none, none]) (by decide) rfl rfl dX8_lifts_6 ?_
  refine aw_aload_n (x := ad 14 0 0) rfl dX8_lifts_7 ?_
  refine aw_iload_n (x := (nI l)) rfl dX8_lifts_8 ?_
  refine aw_iconst (v := 0) (by decide) dX8_lifts_9 ?_
  refine aw_rV (As := [.int (nI l), .int 0]) (S := []) (v := some (.int 2)) (o2 := o) (RTv (ct_X8_of (l := l) (w := 0) (by omega) (by decide)) hp) (mm_fit_of cbX8_of (by decide) (by decide)) wq969 cvX8_of wv14 rfl rfl rfl (Nat.le_of_ble_eq_true rfl) (by decide) (by decide) rfl dX8_lifts_10 ?_
  refine aw_istore_n (L2 := [some (.ref (ad 14 0 0)), some (.int (nI s)), some (.int (nI l)), some (.int 2), none, none]) (by decide) rfl rfl dX8_lifts_13 ?_
  refine aw_aload_n (x := ad 14 0 0) rfl dX8_lifts_14 ?_
  refine aw_iload_n (x := (nI l)) rfl dX8_lifts_15 ?_
  refine aw_iconst (v := 2) (by decide) dX8_lifts_16 ?_
  refine aw_rV (As := [.int (nI l), .int 2]) (S := []) (v := some (.int (o.1 8 (20 * l + 3)))) (o2 := o) (ct_X8_of (l := l) (w := 2) (by omega) (by decide)) (mm_fit_of cbX8_of (by decide) (by decide)) wq969 cvX8_of wv14 rfl rfl rfl (Nat.le_of_ble_eq_true rfl) (by decide) (by decide) rfl dX8_lifts_17 ?_
  refine aw_istore (L2 := [some (.ref (ad 14 0 0)), some (.int (nI s)), some (.int (nI l)), some (.int 2), some (.int (o.1 8 (20 * l + 3))), none]) (by decide) rfl rfl dX8_lifts_20 ?_
  refine aw_aload_n (x := ad 14 0 0) rfl dX8_lifts_22 ?_
  refine aw_iload_n (x := (nI s)) rfl dX8_lifts_23 ?_
  refine aw_iconst (v := 5) (by decide) dX8_lifts_24 ?_
  refine aw_iconst (v := 1) (by decide) dX8_lifts_25 ?_
  refine aw_rV (As := [.int (nI s), .int 5, .int 1]) (S := []) (v := none) (o2 := (wd_w o 8 (101 + 8 * s + 6) 1)) (ct_X8_give (s := s) (w := 5) (by omega) (by decide)) (mm_fit_of cbX8_give (by decide) (by decide)) wq953 cvX8_give wv14 rfl rfl rfl (Nat.le_of_ble_eq_true rfl) (by decide) (by decide) rfl dX8_lifts_26 ?_
  refine aw_aload_n (x := ad 14 0 0) rfl dX8_lifts_29 ?_
  refine aw_iload_n (x := (nI s)) rfl dX8_lifts_30 ?_
  refine aw_bipush (v := 6) (by decide) dX8_lifts_31 ?_
  refine aw_iconst (v := 0) (by decide) dX8_lifts_33 ?_
  refine aw_rV (As := [.int (nI s), .int 6, .int 0]) (S := []) (v := none) (o2 := (wd_w (wd_w o 8 (101 + 8 * s + 6) 1) 8 (101 + 8 * s + 7) 0)) (ct_X8_give (s := s) (w := 6) (by omega) (by decide)) (mm_fit_of cbX8_give (by decide) (by decide)) wq953 cvX8_give wv14 rfl rfl rfl (Nat.le_of_ble_eq_true rfl) (by decide) (by decide) rfl dX8_lifts_34 ?_
  refine aw_aload_n (x := ad 14 0 0) rfl dX8_lifts_37 ?_
  refine aw_iload_n (x := (nI s)) rfl dX8_lifts_38 ?_
  obtain ⟨o1, ho1⟩ : ∃ z, z = (wd_w (wd_w o 8 (101 + 8 * s + 6) 1) 8 (101 + 8 * s + 7) 0) := ⟨_, rfl⟩
  rw [← ho1]
  have Go1 : cg (o1.1 8) n m := by rw [ho1]; simp only [wd_w_row, row_self]; exact cg_upd (cg_upd (G) (by omega) (by omega) (fun _ _ => ⟨by omega, by omega⟩)) (by omega) (by omega) (fun _ _ => ⟨by omega, by omega⟩)
  have hho1 : o1.1 8 (101 + 8 * s + 1) = nI l := by rw [ho1]; simp only [wd_w_row, row_self]; rw [upd_ne _ _ (by omega)]; rw [upd_ne _ _ (by omega)]; exact hh
  have hpo1 : o1.1 8 (20 * l + 1) = 2 := by rw [ho1]; simp only [wd_w_row, row_self]; rw [upd_ne _ _ (by omega)]; rw [upd_ne _ _ (by omega)]; exact hp
  refine aw_rV (As := [.int (nI s)]) (S := []) (v := some (.int (mf_cut (o1.1 8) l s))) (o2 := o1) (ct_X8_cut Go1 hl (by omega) hho1) (mm_fit_of cbX8_cut (by decide) (by decide)) wq993 cvX8_cut wv14 rfl rfl rfl (Nat.le_of_ble_eq_true rfl) (by decide) (by decide) rfl dX8_lifts_39 ?_
  refine aw_if_eq (tgt := 46) (by decide) dX8_lifts_42 (fun b1 => ?_) (fun b1 => ?_)
  · skip
    refine aw_iload_n (x := 2) rfl dX8_lifts_46 ?_
    refine aw_if_ne (tgt := 62) (by decide) dX8_lifts_47 (fun _ => ?_) (fun z => absurd z (by decide))
    refine aw_iload_n (x := 2) rfl dX8_lifts_62 ?_
    refine aw_iconst (v := 3) (by decide) dX8_lifts_63 ?_
    refine aw_icmp_ne (tgt := 124) (by decide) dX8_lifts_64 (fun _ => ?_) (fun z => absurd z (by decide))
    refine aw_iload_n (x := 2) rfl dX8_lifts_124 ?_
    refine aw_bipush (v := 7) (by decide) dX8_lifts_125 ?_
    refine aw_icmp_ne (tgt := 148) (by decide) dX8_lifts_127 (fun _ => ?_) (fun z => absurd z (by decide))
    refine aw_iload_n (x := 2) rfl dX8_lifts_148 ?_
    refine aw_bipush (v := 7) (by decide) dX8_lifts_149 ?_
    refine aw_icmp_ne (tgt := 180) (by decide) dX8_lifts_151 (fun _ => ?_) (fun z => absurd z (by decide))
    refine aw_iload_n (x := 2) rfl dX8_lifts_180 ?_
    refine aw_bipush (v := 8) (by decide) dX8_lifts_181 ?_
    refine aw_icmp_ne (tgt := 192) (by decide) dX8_lifts_183 (fun _ => ?_) (fun z => absurd z (by decide))
    refine aw_iload_n (x := 2) rfl dX8_lifts_192 ?_
    refine aw_iconst (v := 4) (by decide) dX8_lifts_193 ?_
    refine aw_icmp_eq (tgt := 203) (by decide) dX8_lifts_194 (fun z => absurd z (by decide)) (fun _ => ?_)
    refine aw_iload_n (x := 2) rfl dX8_lifts_197 ?_
    refine aw_bipush (v := 8) (by decide) dX8_lifts_198 ?_
    refine aw_icmp_ne (tgt := 229) (by decide) dX8_lifts_200 (fun _ => ?_) (fun z => absurd z (by decide))
    refine aw_iconst (v := 0) (by decide) dX8_lifts_229 ?_
    refine aw_istore (L2 := [some (.ref (ad 14 0 0)), some (.int (nI s)), some (.int (nI l)), some (.int 2), some (.int (o.1 8 (20 * l + 3))), some (.int 0)]) (by decide) rfl rfl dX8_lifts_230 ?_
    refine aw_aload_n (x := ad 14 0 0) rfl dX8_lifts_232 ?_
    refine aw_iload_n (x := (nI s)) rfl dX8_lifts_233 ?_
    refine aw_bipush (v := 6) (by decide) dX8_lifts_234 ?_
    refine aw_iload (x := 0) rfl dX8_lifts_236 ?_
    refine aw_if_eq (tgt := 245) (by decide) dX8_lifts_238 (fun _ => ?_) (fun z => absurd z (by decide))
    refine aw_iconst (v := 3) (by decide) dX8_lifts_245 ?_
    refine aw_rV (As := [.int (nI s), .int 6, .int 3]) (S := []) (v := none) (o2 := (wd_w o1 8 (101 + 8 * s + 7) 3)) (ct_X8_give (s := s) (w := 6) (by omega) (by decide)) (mm_fit_of cbX8_give (by decide) (by decide)) wq953 cvX8_give wv14 rfl rfl rfl (Nat.le_of_ble_eq_true rfl) (by decide) (by decide) rfl dX8_lifts_246 ?_
    refine aw_aload_n (x := ad 14 0 0) rfl dX8_lifts_249 ?_
    refine aw_getr (q := (15, 0, 0)) wv14 rfl flX8_7 rfl rfl dX8_lifts_250 ?_
    refine aw_sipush (v := 231) (by decide) dX8_lifts_253 ?_
    refine aw_iload (x := 0) rfl dX8_lifts_256 ?_
    refine aw_if_eq (tgt := 265) (by decide) dX8_lifts_258 (fun _ => ?_) (fun z => absurd z (by decide))
    refine aw_iconst (v := 4) (by decide) dX8_lifts_265 ?_
    refine aw_iaddz (z := 235) (by decide) dX8_lifts_266 ?_
    refine aw_dup2 rfl rfl dX8_lifts_267 ?_
    refine aw_ild (x := 235) (q := (8, 235)) (y := (wd_w o1 8 (101 + 8 * s + 7) 3).1 8 235) (by decide) (wv15 (by decide)) rfl rfl (Nat.le_of_ble_eq_true rfl) rfl dX8_lifts_268 ?_
    refine aw_iconst (v := 1) (by decide) dX8_lifts_269 ?_
    refine aw_iaddz (z := ((wd_w o1 8 (101 + 8 * s + 7) 3).1 8 235) + 1) rfl dX8_lifts_270 ?_
    refine aw_ist (x := 235) (q := (8, 235)) (y := ((wd_w o1 8 (101 + 8 * s + 7) 3).1 8 235) + 1) (by decide) (wv15 (by decide)) rfl (Nat.le_of_ble_eq_true rfl) rfl dX8_lifts_271 ?_
    exact aw_vret rfl (by decide) (by decide) dX8_lifts_272 ⟨rfl, by (subst ho1; first | with_reducible rfl | (simp [mf_lifts, hp, cs_inc, oI, mR, wd_w_row, row_self, row_row, b1]; done) | (simp_all [mf_lifts, hp, cs_inc, oI, mR, wd_w_row, row_self, row_row, b1]; done))⟩
  · skip
    exact aw_vret rfl (by decide) (by decide) dX8_lifts_45 ⟨rfl, by (subst ho1; first | with_reducible rfl | (simp [mf_lifts, hp, cs_inc, oI, mR, wd_w_row, row_self, row_row, b1]; done) | (simp_all [mf_lifts, hp, cs_inc, oI, mR, wd_w_row, row_self, row_row, b1]; done))⟩
theorem ct_X8_lifts_3 {ad : Nat → Nat → Nat → Nat} {o : wd_S} {n m : Nat} (G : cg (o.1 8) n m) {l s e : Nat} (hl : l < 5) (hs : s < m) (hh : o.1 8 (101 + 8 * s + 1) = nI l) (hf : ok m (o.1 8 (20 * l + 3))) (hq : ok m (o.1 8 (20 * l + 4))) (hp : o.1 8 (20 * l + 1) = 3) (he5 : e < 5) (he : o.1 8 (20 * l + 5) = nI e) : CT ad MX8_lifts [.ref (ad 14 0 0), .int (nI s)] o (RT none (wd_row o 8 (mf_lifts (o.1 8) m l s e))) := by
  obtain ⟨g1, g2, g3, g4, g5, g6⟩ := id G
  have hs16 : s < 16 := by omega
  refine CT.of (L := [some (.ref (ad 14 0 0)), some (.int (nI s)), none, none, none, none]) rfl rfl (by decide) (Nat.le_of_ble_eq_true rfl) rfl ?_
  refine aw_aload_n (x := ad 14 0 0) rfl dX8_lifts_0 ?_
  refine aw_iload_n (x := (nI s)) rfl dX8_lifts_1 ?_
  refine aw_iconst (v := 0) (by decide) dX8_lifts_2 ?_
  refine aw_rV (As := [.int (nI s), .int 0]) (S := []) (v := some (.int (nI l))) (o2 := o) (RTv (ct_X8_its (s := s) (w := 0) (by omega) (by decide)) hh) (mm_fit_of cbX8_its (by decide) (by decide)) wq949 cvX8_its wv14 rfl rfl rfl (Nat.le_of_ble_eq_true rfl) (by decide) (by decide) rfl dX8_lifts_3 ?_
  refine aw_istore_n (L2 := [some (.ref (ad 14 0 0)), some (.int (nI s)), some (.int (nI l)), none, none, none]) (by decide) rfl rfl dX8_lifts_6 ?_
  refine aw_aload_n (x := ad 14 0 0) rfl dX8_lifts_7 ?_
  refine aw_iload_n (x := (nI l)) rfl dX8_lifts_8 ?_
  refine aw_iconst (v := 0) (by decide) dX8_lifts_9 ?_
  refine aw_rV (As := [.int (nI l), .int 0]) (S := []) (v := some (.int 3)) (o2 := o) (RTv (ct_X8_of (l := l) (w := 0) (by omega) (by decide)) hp) (mm_fit_of cbX8_of (by decide) (by decide)) wq969 cvX8_of wv14 rfl rfl rfl (Nat.le_of_ble_eq_true rfl) (by decide) (by decide) rfl dX8_lifts_10 ?_
  refine aw_istore_n (L2 := [some (.ref (ad 14 0 0)), some (.int (nI s)), some (.int (nI l)), some (.int 3), none, none]) (by decide) rfl rfl dX8_lifts_13 ?_
  refine aw_aload_n (x := ad 14 0 0) rfl dX8_lifts_14 ?_
  refine aw_iload_n (x := (nI l)) rfl dX8_lifts_15 ?_
  refine aw_iconst (v := 2) (by decide) dX8_lifts_16 ?_
  refine aw_rV (As := [.int (nI l), .int 2]) (S := []) (v := some (.int (o.1 8 (20 * l + 3)))) (o2 := o) (ct_X8_of (l := l) (w := 2) (by omega) (by decide)) (mm_fit_of cbX8_of (by decide) (by decide)) wq969 cvX8_of wv14 rfl rfl rfl (Nat.le_of_ble_eq_true rfl) (by decide) (by decide) rfl dX8_lifts_17 ?_
  refine aw_istore (L2 := [some (.ref (ad 14 0 0)), some (.int (nI s)), some (.int (nI l)), some (.int 3), some (.int (o.1 8 (20 * l + 3))), none]) (by decide) rfl rfl dX8_lifts_20 ?_
  refine aw_aload_n (x := ad 14 0 0) rfl dX8_lifts_22 ?_
  refine aw_iload_n (x := (nI s)) rfl dX8_lifts_23 ?_
  refine aw_iconst (v := 5) (by decide) dX8_lifts_24 ?_
  refine aw_iconst (v := 1) (by decide) dX8_lifts_25 ?_
  refine aw_rV (As := [.int (nI s), .int 5, .int 1]) (S := []) (v := none) (o2 := (wd_w o 8 (101 + 8 * s + 6) 1)) (ct_X8_give (s := s) (w := 5) (by omega) (by decide)) (mm_fit_of cbX8_give (by decide) (by decide)) wq953 cvX8_give wv14 rfl rfl rfl (Nat.le_of_ble_eq_true rfl) (by decide) (by decide) rfl dX8_lifts_26 ?_
  refine aw_aload_n (x := ad 14 0 0) rfl dX8_lifts_29 ?_
  refine aw_iload_n (x := (nI s)) rfl dX8_lifts_30 ?_
  refine aw_bipush (v := 6) (by decide) dX8_lifts_31 ?_
  refine aw_iconst (v := 0) (by decide) dX8_lifts_33 ?_
  refine aw_rV (As := [.int (nI s), .int 6, .int 0]) (S := []) (v := none) (o2 := (wd_w (wd_w o 8 (101 + 8 * s + 6) 1) 8 (101 + 8 * s + 7) 0)) (ct_X8_give (s := s) (w := 6) (by omega) (by decide)) (mm_fit_of cbX8_give (by decide) (by decide)) wq953 cvX8_give wv14 rfl rfl rfl (Nat.le_of_ble_eq_true rfl) (by decide) (by decide) rfl dX8_lifts_34 ?_
  refine aw_aload_n (x := ad 14 0 0) rfl dX8_lifts_37 ?_
  refine aw_iload_n (x := (nI s)) rfl dX8_lifts_38 ?_
  obtain ⟨o1, ho1⟩ : ∃ z, z = (wd_w (wd_w o 8 (101 + 8 * s + 6) 1) 8 (101 + 8 * s + 7) 0) := ⟨_, rfl⟩
  rw [← ho1]
  have Go1 : cg (o1.1 8) n m := by rw [ho1]; simp only [wd_w_row, row_self]; exact cg_upd (cg_upd (G) (by omega) (by omega) (fun _ _ => ⟨by omega, by omega⟩)) (by omega) (by omega) (fun _ _ => ⟨by omega, by omega⟩)
  have hho1 : o1.1 8 (101 + 8 * s + 1) = nI l := by rw [ho1]; simp only [wd_w_row, row_self]; rw [upd_ne _ _ (by omega)]; rw [upd_ne _ _ (by omega)]; exact hh
  have hpo1 : o1.1 8 (20 * l + 1) = 3 := by rw [ho1]; simp only [wd_w_row, row_self]; rw [upd_ne _ _ (by omega)]; rw [upd_ne _ _ (by omega)]; exact hp
  have heo1 : o1.1 8 (20 * l + 5) = nI e := by rw [ho1]; simp only [wd_w_row, row_self]; rw [upd_ne _ _ (by omega)]; rw [upd_ne _ _ (by omega)]; exact he
  refine aw_rV (As := [.int (nI s)]) (S := []) (v := some (.int (mf_cut (o1.1 8) l s))) (o2 := o1) (ct_X8_cut Go1 hl (by omega) hho1) (mm_fit_of cbX8_cut (by decide) (by decide)) wq993 cvX8_cut wv14 rfl rfl rfl (Nat.le_of_ble_eq_true rfl) (by decide) (by decide) rfl dX8_lifts_39 ?_
  refine aw_if_eq (tgt := 46) (by decide) dX8_lifts_42 (fun b1 => ?_) (fun b1 => ?_)
  · skip
    refine aw_iload_n (x := 3) rfl dX8_lifts_46 ?_
    refine aw_if_ne (tgt := 62) (by decide) dX8_lifts_47 (fun _ => ?_) (fun z => absurd z (by decide))
    refine aw_iload_n (x := 3) rfl dX8_lifts_62 ?_
    refine aw_iconst (v := 3) (by decide) dX8_lifts_63 ?_
    refine aw_icmp_ne (tgt := 124) (by decide) dX8_lifts_64 (fun z => absurd z (by decide)) (fun _ => ?_)
    refine aw_aload_n (x := ad 14 0 0) rfl dX8_lifts_67 ?_
    refine aw_iload_n (x := (nI l)) rfl dX8_lifts_68 ?_
    refine aw_iconst (v := 4) (by decide) dX8_lifts_69 ?_
    refine aw_rV (As := [.int (nI l), .int 4]) (S := []) (v := some (.int (nI e))) (o2 := o1) (RTv (ct_X8_of (l := l) (w := 4) (by omega) (by decide)) heo1) (mm_fit_of cbX8_of (by decide) (by decide)) wq969 cvX8_of wv14 rfl rfl rfl (Nat.le_of_ble_eq_true rfl) (by decide) (by decide) rfl dX8_lifts_70 ?_
    refine aw_istore (L2 := [some (.ref (ad 14 0 0)), some (.int (nI s)), some (.int (nI l)), some (.int 3), some (.int (o.1 8 (20 * l + 3))), some (.int (nI e))]) (by decide) rfl rfl dX8_lifts_73 ?_
    refine aw_aload_n (x := ad 14 0 0) rfl dX8_lifts_75 ?_
    refine aw_iload_n (x := (nI l)) rfl dX8_lifts_76 ?_
    refine aw_iconst (v := 4) (by decide) dX8_lifts_77 ?_
    refine aw_iload_n (x := (nI s)) rfl dX8_lifts_78 ?_
    refine aw_iconst (v := (-1)) (by decide) dX8_lifts_79 ?_
    refine aw_iload (x := (nI e)) rfl dX8_lifts_80 ?_
    refine aw_rV (As := [.int (nI l), .int 4, .int (nI s), .int (-1), .int (nI e)]) (S := []) (v := none) (o2 := (wd_row o1 8 (mf_comes (o1.1 8) l 4 (nI s) (-1) (nI e)))) (ct_X8_comes (by omega)) (mm_fit_of cbX8_comes (by decide) (by decide)) wq1013 cvX8_comes wv14 rfl rfl rfl (Nat.le_of_ble_eq_true rfl) (by decide) (by decide) rfl dX8_lifts_82 ?_
    obtain ⟨o2, ho2⟩ : ∃ z, z = (wd_row o1 8 (mf_comes (o1.1 8) l 4 (nI s) (-1) (nI e))) := ⟨_, rfl⟩
    rw [← ho2]
    have Go2 : cg (o2.1 8) n m := by rw [ho2]; rw [row_self]; exact cg_stl (stl_comes (by omega)) Go1
    have hho1o2 : o2.1 8 (101 + 8 * s + 1) = nI l := by rw [ho2]; rw [row_self]; rw [mcomes_ne (by omega)]; exact hho1
    refine aw_aload_n (x := ad 14 0 0) rfl dX8_lifts_85 ?_
    refine aw_iload (x := (nI e)) rfl dX8_lifts_86 ?_
    refine aw_iconst (v := 4) (by decide) dX8_lifts_88 ?_
    refine aw_aload_n (x := ad 14 0 0) rfl dX8_lifts_89 ?_
    refine aw_iload (x := (nI e)) rfl dX8_lifts_90 ?_
    refine aw_iconst (v := 2) (by decide) dX8_lifts_92 ?_
    refine aw_rV (As := [.int (nI e), .int 2]) (S := [.int 4, .int (nI e), .ref (ad 14 0 0)]) (v := some (.int (o2.1 8 (20 * e + 3)))) (o2 := o2) (ct_X8_of (l := e) (w := 2) (by omega) (by decide)) (mm_fit_of cbX8_of (by decide) (by decide)) wq969 cvX8_of wv14 rfl rfl rfl (Nat.le_of_ble_eq_true rfl) (by decide) (by decide) rfl dX8_lifts_93 ?_
    refine aw_iconst (v := (-1)) (by decide) dX8_lifts_96 ?_
    refine aw_iload_n (x := (nI l)) rfl dX8_lifts_97 ?_
    refine aw_rV (As := [.int (nI e), .int 4, .int (o2.1 8 (20 * e + 3)), .int (-1), .int (nI l)]) (S := []) (v := none) (o2 := (wd_row o2 8 (mf_comes (o2.1 8) e 4 (o2.1 8 (20 * e + 3)) (-1) (nI l)))) (ct_X8_comes (by omega)) (mm_fit_of cbX8_comes (by decide) (by decide)) wq1013 cvX8_comes wv14 rfl rfl rfl (Nat.le_of_ble_eq_true rfl) (by decide) (by decide) rfl dX8_lifts_98 ?_
    obtain ⟨o3, ho3⟩ : ∃ z, z = (wd_row o2 8 (mf_comes (o2.1 8) e 4 (o2.1 8 (20 * e + 3)) (-1) (nI l))) := ⟨_, rfl⟩
    rw [← ho3]
    have Go3 : cg (o3.1 8) n m := by rw [ho3]; rw [row_self]; exact cg_stl (stl_comes (by omega)) Go2
    have hho1o2o3 : o3.1 8 (101 + 8 * s + 1) = nI l := by rw [ho3]; rw [row_self]; rw [mcomes_ne (by omega)]; exact hho1o2
    refine aw_aload_n (x := ad 14 0 0) rfl dX8_lifts_101 ?_
    refine aw_iload (x := (nI e)) rfl dX8_lifts_102 ?_
    refine aw_iconst (v := 5) (by decide) dX8_lifts_104 ?_
    refine aw_iconst (v := 1) (by decide) dX8_lifts_105 ?_
    refine aw_rV (As := [.int (nI e), .int 5, .int 1]) (S := []) (v := none) (o2 := (wd_w o3 8 (20 * e + 6) 1)) (ct_X8_put (l := e) (w := 5) (by omega) (by decide)) (mm_fit_of cbX8_put (by decide) (by decide)) wq888 cvX8_put wv14 rfl rfl rfl (Nat.le_of_ble_eq_true rfl) (by decide) (by decide) rfl dX8_lifts_106 ?_
    refine aw_aload_n (x := ad 14 0 0) rfl dX8_lifts_109 ?_
    refine aw_getr (q := (15, 0, 0)) wv14 rfl flX8_7 rfl rfl dX8_lifts_110 ?_
    refine aw_sipush (v := 231) (by decide) dX8_lifts_113 ?_
    refine aw_dup2 rfl rfl dX8_lifts_116 ?_
    refine aw_ild (x := 231) (q := (8, 231)) (y := (wd_w o3 8 (20 * e + 6) 1).1 8 231) (by decide) (wv15 (by decide)) rfl rfl (Nat.le_of_ble_eq_true rfl) rfl dX8_lifts_117 ?_
    refine aw_iconst (v := 1) (by decide) dX8_lifts_118 ?_
    refine aw_iaddz (z := ((wd_w o3 8 (20 * e + 6) 1).1 8 231) + 1) rfl dX8_lifts_119 ?_
    refine aw_ist (x := 231) (q := (8, 231)) (y := ((wd_w o3 8 (20 * e + 6) 1).1 8 231) + 1) (by decide) (wv15 (by decide)) rfl (Nat.le_of_ble_eq_true rfl) rfl dX8_lifts_120 ?_
    refine aw_goto (tgt := 272) (by decide) dX8_lifts_121 ?_
    exact aw_vret rfl (by decide) (by decide) dX8_lifts_272 ⟨rfl, by (subst ho3; subst ho2; subst ho1; first | with_reducible rfl | (simp [mf_lifts, hp, cs_inc, oI, mR, wd_w_row, row_self, row_row, b1]; done) | (simp_all [mf_lifts, hp, cs_inc, oI, mR, wd_w_row, row_self, row_row, b1]; done))⟩
  · skip
    exact aw_vret rfl (by decide) (by decide) dX8_lifts_45 ⟨rfl, by (subst ho1; first | with_reducible rfl | (simp [mf_lifts, hp, cs_inc, oI, mR, wd_w_row, row_self, row_row, b1]; done) | (simp_all [mf_lifts, hp, cs_inc, oI, mR, wd_w_row, row_self, row_row, b1]; done))⟩
theorem ct_X8_lifts_4 {ad : Nat → Nat → Nat → Nat} {o : wd_S} {n m : Nat} (G : cg (o.1 8) n m) {l s e : Nat} (hl : l < 5) (hs : s < m) (hh : o.1 8 (101 + 8 * s + 1) = nI l) (hf : ok m (o.1 8 (20 * l + 3))) (hq : ok m (o.1 8 (20 * l + 4))) (hp : o.1 8 (20 * l + 1) = 4) : CT ad MX8_lifts [.ref (ad 14 0 0), .int (nI s)] o (RT none (wd_row o 8 (mf_lifts (o.1 8) m l s e))) := by
  obtain ⟨g1, g2, g3, g4, g5, g6⟩ := id G
  have hs16 : s < 16 := by omega
  refine CT.of (L := [some (.ref (ad 14 0 0)), some (.int (nI s)), none, none, none, none]) rfl rfl (by decide) (Nat.le_of_ble_eq_true rfl) rfl ?_
  refine aw_aload_n (x := ad 14 0 0) rfl dX8_lifts_0 ?_
  refine aw_iload_n (x := (nI s)) rfl dX8_lifts_1 ?_
  refine aw_iconst (v := 0) (by decide) dX8_lifts_2 ?_
  refine aw_rV (As := [.int (nI s), .int 0]) (S := []) (v := some (.int (nI l))) (o2 := o) (RTv (ct_X8_its (s := s) (w := 0) (by omega) (by decide)) hh) (mm_fit_of cbX8_its (by decide) (by decide)) wq949 cvX8_its wv14 rfl rfl rfl (Nat.le_of_ble_eq_true rfl) (by decide) (by decide) rfl dX8_lifts_3 ?_
  refine aw_istore_n (L2 := [some (.ref (ad 14 0 0)), some (.int (nI s)), some (.int (nI l)), none, none, none]) (by decide) rfl rfl dX8_lifts_6 ?_
  refine aw_aload_n (x := ad 14 0 0) rfl dX8_lifts_7 ?_
  refine aw_iload_n (x := (nI l)) rfl dX8_lifts_8 ?_
  refine aw_iconst (v := 0) (by decide) dX8_lifts_9 ?_
  refine aw_rV (As := [.int (nI l), .int 0]) (S := []) (v := some (.int 4)) (o2 := o) (RTv (ct_X8_of (l := l) (w := 0) (by omega) (by decide)) hp) (mm_fit_of cbX8_of (by decide) (by decide)) wq969 cvX8_of wv14 rfl rfl rfl (Nat.le_of_ble_eq_true rfl) (by decide) (by decide) rfl dX8_lifts_10 ?_
  refine aw_istore_n (L2 := [some (.ref (ad 14 0 0)), some (.int (nI s)), some (.int (nI l)), some (.int 4), none, none]) (by decide) rfl rfl dX8_lifts_13 ?_
  refine aw_aload_n (x := ad 14 0 0) rfl dX8_lifts_14 ?_
  refine aw_iload_n (x := (nI l)) rfl dX8_lifts_15 ?_
  refine aw_iconst (v := 2) (by decide) dX8_lifts_16 ?_
  refine aw_rV (As := [.int (nI l), .int 2]) (S := []) (v := some (.int (o.1 8 (20 * l + 3)))) (o2 := o) (ct_X8_of (l := l) (w := 2) (by omega) (by decide)) (mm_fit_of cbX8_of (by decide) (by decide)) wq969 cvX8_of wv14 rfl rfl rfl (Nat.le_of_ble_eq_true rfl) (by decide) (by decide) rfl dX8_lifts_17 ?_
  refine aw_istore (L2 := [some (.ref (ad 14 0 0)), some (.int (nI s)), some (.int (nI l)), some (.int 4), some (.int (o.1 8 (20 * l + 3))), none]) (by decide) rfl rfl dX8_lifts_20 ?_
  refine aw_aload_n (x := ad 14 0 0) rfl dX8_lifts_22 ?_
  refine aw_iload_n (x := (nI s)) rfl dX8_lifts_23 ?_
  refine aw_iconst (v := 5) (by decide) dX8_lifts_24 ?_
  refine aw_iconst (v := 1) (by decide) dX8_lifts_25 ?_
  refine aw_rV (As := [.int (nI s), .int 5, .int 1]) (S := []) (v := none) (o2 := (wd_w o 8 (101 + 8 * s + 6) 1)) (ct_X8_give (s := s) (w := 5) (by omega) (by decide)) (mm_fit_of cbX8_give (by decide) (by decide)) wq953 cvX8_give wv14 rfl rfl rfl (Nat.le_of_ble_eq_true rfl) (by decide) (by decide) rfl dX8_lifts_26 ?_
  refine aw_aload_n (x := ad 14 0 0) rfl dX8_lifts_29 ?_
  refine aw_iload_n (x := (nI s)) rfl dX8_lifts_30 ?_
  refine aw_bipush (v := 6) (by decide) dX8_lifts_31 ?_
  refine aw_iconst (v := 0) (by decide) dX8_lifts_33 ?_
  refine aw_rV (As := [.int (nI s), .int 6, .int 0]) (S := []) (v := none) (o2 := (wd_w (wd_w o 8 (101 + 8 * s + 6) 1) 8 (101 + 8 * s + 7) 0)) (ct_X8_give (s := s) (w := 6) (by omega) (by decide)) (mm_fit_of cbX8_give (by decide) (by decide)) wq953 cvX8_give wv14 rfl rfl rfl (Nat.le_of_ble_eq_true rfl) (by decide) (by decide) rfl dX8_lifts_34 ?_
  refine aw_aload_n (x := ad 14 0 0) rfl dX8_lifts_37 ?_
  refine aw_iload_n (x := (nI s)) rfl dX8_lifts_38 ?_
  obtain ⟨o1, ho1⟩ : ∃ z, z = (wd_w (wd_w o 8 (101 + 8 * s + 6) 1) 8 (101 + 8 * s + 7) 0) := ⟨_, rfl⟩
  rw [← ho1]
  have Go1 : cg (o1.1 8) n m := by rw [ho1]; simp only [wd_w_row, row_self]; exact cg_upd (cg_upd (G) (by omega) (by omega) (fun _ _ => ⟨by omega, by omega⟩)) (by omega) (by omega) (fun _ _ => ⟨by omega, by omega⟩)
  have hho1 : o1.1 8 (101 + 8 * s + 1) = nI l := by rw [ho1]; simp only [wd_w_row, row_self]; rw [upd_ne _ _ (by omega)]; rw [upd_ne _ _ (by omega)]; exact hh
  have hpo1 : o1.1 8 (20 * l + 1) = 4 := by rw [ho1]; simp only [wd_w_row, row_self]; rw [upd_ne _ _ (by omega)]; rw [upd_ne _ _ (by omega)]; exact hp
  refine aw_rV (As := [.int (nI s)]) (S := []) (v := some (.int (mf_cut (o1.1 8) l s))) (o2 := o1) (ct_X8_cut Go1 hl (by omega) hho1) (mm_fit_of cbX8_cut (by decide) (by decide)) wq993 cvX8_cut wv14 rfl rfl rfl (Nat.le_of_ble_eq_true rfl) (by decide) (by decide) rfl dX8_lifts_39 ?_
  refine aw_if_eq (tgt := 46) (by decide) dX8_lifts_42 (fun b1 => ?_) (fun b1 => ?_)
  · skip
    refine aw_iload_n (x := 4) rfl dX8_lifts_46 ?_
    refine aw_if_ne (tgt := 62) (by decide) dX8_lifts_47 (fun _ => ?_) (fun z => absurd z (by decide))
    refine aw_iload_n (x := 4) rfl dX8_lifts_62 ?_
    refine aw_iconst (v := 3) (by decide) dX8_lifts_63 ?_
    refine aw_icmp_ne (tgt := 124) (by decide) dX8_lifts_64 (fun _ => ?_) (fun z => absurd z (by decide))
    refine aw_iload_n (x := 4) rfl dX8_lifts_124 ?_
    refine aw_bipush (v := 7) (by decide) dX8_lifts_125 ?_
    refine aw_icmp_ne (tgt := 148) (by decide) dX8_lifts_127 (fun _ => ?_) (fun z => absurd z (by decide))
    refine aw_iload_n (x := 4) rfl dX8_lifts_148 ?_
    refine aw_bipush (v := 7) (by decide) dX8_lifts_149 ?_
    refine aw_icmp_ne (tgt := 180) (by decide) dX8_lifts_151 (fun _ => ?_) (fun z => absurd z (by decide))
    refine aw_iload_n (x := 4) rfl dX8_lifts_180 ?_
    refine aw_bipush (v := 8) (by decide) dX8_lifts_181 ?_
    refine aw_icmp_ne (tgt := 192) (by decide) dX8_lifts_183 (fun _ => ?_) (fun z => absurd z (by decide))
    refine aw_iload_n (x := 4) rfl dX8_lifts_192 ?_
    refine aw_iconst (v := 4) (by decide) dX8_lifts_193 ?_
    refine aw_icmp_eq (tgt := 203) (by decide) dX8_lifts_194 (fun _ => ?_) (fun z => absurd z (by decide))
    refine aw_aload_n (x := ad 14 0 0) rfl dX8_lifts_203 ?_
    refine aw_iload (x := (o.1 8 (20 * l + 3))) rfl dX8_lifts_204 ?_
    refine aw_rV (As := [.int (o.1 8 (20 * l + 3))]) (S := []) (v := some (.int (mf_pv (o1.1 8) m (o.1 8 (20 * l + 3))))) (o2 := o1) (ct_X8_isPrivate g4 hf) (mm_fit_of cbX8_isPrivate (by decide) (by decide)) wq1017 cvX8_isPrivate wv14 rfl rfl rfl (Nat.le_of_ble_eq_true rfl) (by decide) (by decide) rfl dX8_lifts_206 ?_
    refine aw_if_ne (tgt := 225) (by decide) dX8_lifts_209 (fun b2 => ?_) (fun b2 => ?_)
    · skip
      refine aw_iconst (v := 1) (by decide) dX8_lifts_225 ?_
      refine aw_goto (tgt := 230) (by decide) dX8_lifts_226 ?_
      refine aw_istore (L2 := [some (.ref (ad 14 0 0)), some (.int (nI s)), some (.int (nI l)), some (.int 4), some (.int (o.1 8 (20 * l + 3))), some (.int 1)]) (by decide) rfl rfl dX8_lifts_230 ?_
      refine aw_aload_n (x := ad 14 0 0) rfl dX8_lifts_232 ?_
      refine aw_iload_n (x := (nI s)) rfl dX8_lifts_233 ?_
      refine aw_bipush (v := 6) (by decide) dX8_lifts_234 ?_
      refine aw_iload (x := 1) rfl dX8_lifts_236 ?_
      refine aw_if_eq (tgt := 245) (by decide) dX8_lifts_238 (fun z => absurd z (by decide)) (fun _ => ?_)
      refine aw_iconst (v := 4) (by decide) dX8_lifts_241 ?_
      refine aw_goto (tgt := 246) (by decide) dX8_lifts_242 ?_
      refine aw_rV (As := [.int (nI s), .int 6, .int 4]) (S := []) (v := none) (o2 := (wd_w o1 8 (101 + 8 * s + 7) 4)) (ct_X8_give (s := s) (w := 6) (by omega) (by decide)) (mm_fit_of cbX8_give (by decide) (by decide)) wq953 cvX8_give wv14 rfl rfl rfl (Nat.le_of_ble_eq_true rfl) (by decide) (by decide) rfl dX8_lifts_246 ?_
      refine aw_aload_n (x := ad 14 0 0) rfl dX8_lifts_249 ?_
      refine aw_getr (q := (15, 0, 0)) wv14 rfl flX8_7 rfl rfl dX8_lifts_250 ?_
      refine aw_sipush (v := 231) (by decide) dX8_lifts_253 ?_
      refine aw_iload (x := 1) rfl dX8_lifts_256 ?_
      refine aw_if_eq (tgt := 265) (by decide) dX8_lifts_258 (fun z => absurd z (by decide)) (fun _ => ?_)
      refine aw_iconst (v := 5) (by decide) dX8_lifts_261 ?_
      refine aw_goto (tgt := 266) (by decide) dX8_lifts_262 ?_
      refine aw_iaddz (z := 236) (by decide) dX8_lifts_266 ?_
      refine aw_dup2 rfl rfl dX8_lifts_267 ?_
      refine aw_ild (x := 236) (q := (8, 236)) (y := (wd_w o1 8 (101 + 8 * s + 7) 4).1 8 236) (by decide) (wv15 (by decide)) rfl rfl (Nat.le_of_ble_eq_true rfl) rfl dX8_lifts_268 ?_
      refine aw_iconst (v := 1) (by decide) dX8_lifts_269 ?_
      refine aw_iaddz (z := ((wd_w o1 8 (101 + 8 * s + 7) 4).1 8 236) + 1) rfl dX8_lifts_270 ?_
      refine aw_ist (x := 236) (q := (8, 236)) (y := ((wd_w o1 8 (101 + 8 * s + 7) 4).1 8 236) + 1) (by decide) (wv15 (by decide)) rfl (Nat.le_of_ble_eq_true rfl) rfl dX8_lifts_271 ?_
      exact aw_vret rfl (by decide) (by decide) dX8_lifts_272 ⟨rfl, by (subst ho1; first | with_reducible rfl | (simp [mf_lifts, hp, cs_inc, oI, mR, wd_w_row, row_self, row_row, b1, b2]; done) | (simp_all [mf_lifts, hp, cs_inc, oI, mR, wd_w_row, row_self, row_row, b1, b2]; done))⟩
    · skip
      refine aw_aload_n (x := ad 14 0 0) rfl dX8_lifts_212 ?_
      refine aw_aload_n (x := ad 14 0 0) rfl dX8_lifts_213 ?_
      refine aw_iload_n (x := (nI l)) rfl dX8_lifts_214 ?_
      refine aw_iconst (v := 3) (by decide) dX8_lifts_215 ?_
      refine aw_rV (As := [.int (nI l), .int 3]) (S := [.ref (ad 14 0 0)]) (v := some (.int (o1.1 8 (20 * l + 4)))) (o2 := o1) (ct_X8_of (l := l) (w := 3) (by omega) (by decide)) (mm_fit_of cbX8_of (by decide) (by decide)) wq969 cvX8_of wv14 rfl rfl rfl (Nat.le_of_ble_eq_true rfl) (by decide) (by decide) rfl dX8_lifts_216 ?_
      refine aw_rV (As := [.int (o1.1 8 (20 * l + 4))]) (S := []) (v := some (.int (mf_pv (o1.1 8) m (o1.1 8 (20 * l + 4))))) (o2 := o1) (ct_X8_isPrivate g4 (by rw [ho1]; simp only [wd_w_row, row_self]; rw [upd_ne _ _ (by omega), upd_ne _ _ (by omega)]; exact hq)) (mm_fit_of cbX8_isPrivate (by decide) (by decide)) wq1017 cvX8_isPrivate wv14 rfl rfl rfl (Nat.le_of_ble_eq_true rfl) (by decide) (by decide) rfl dX8_lifts_219 ?_
      refine aw_if_eq (tgt := 229) (by decide) dX8_lifts_222 (fun b3 => ?_) (fun b3 => ?_)
      · skip
        refine aw_iconst (v := 0) (by decide) dX8_lifts_229 ?_
        refine aw_istore (L2 := [some (.ref (ad 14 0 0)), some (.int (nI s)), some (.int (nI l)), some (.int 4), some (.int (o.1 8 (20 * l + 3))), some (.int 0)]) (by decide) rfl rfl dX8_lifts_230 ?_
        refine aw_aload_n (x := ad 14 0 0) rfl dX8_lifts_232 ?_
        refine aw_iload_n (x := (nI s)) rfl dX8_lifts_233 ?_
        refine aw_bipush (v := 6) (by decide) dX8_lifts_234 ?_
        refine aw_iload (x := 0) rfl dX8_lifts_236 ?_
        refine aw_if_eq (tgt := 245) (by decide) dX8_lifts_238 (fun _ => ?_) (fun z => absurd z (by decide))
        refine aw_iconst (v := 3) (by decide) dX8_lifts_245 ?_
        refine aw_rV (As := [.int (nI s), .int 6, .int 3]) (S := []) (v := none) (o2 := (wd_w o1 8 (101 + 8 * s + 7) 3)) (ct_X8_give (s := s) (w := 6) (by omega) (by decide)) (mm_fit_of cbX8_give (by decide) (by decide)) wq953 cvX8_give wv14 rfl rfl rfl (Nat.le_of_ble_eq_true rfl) (by decide) (by decide) rfl dX8_lifts_246 ?_
        refine aw_aload_n (x := ad 14 0 0) rfl dX8_lifts_249 ?_
        refine aw_getr (q := (15, 0, 0)) wv14 rfl flX8_7 rfl rfl dX8_lifts_250 ?_
        refine aw_sipush (v := 231) (by decide) dX8_lifts_253 ?_
        refine aw_iload (x := 0) rfl dX8_lifts_256 ?_
        refine aw_if_eq (tgt := 265) (by decide) dX8_lifts_258 (fun _ => ?_) (fun z => absurd z (by decide))
        refine aw_iconst (v := 4) (by decide) dX8_lifts_265 ?_
        refine aw_iaddz (z := 235) (by decide) dX8_lifts_266 ?_
        refine aw_dup2 rfl rfl dX8_lifts_267 ?_
        refine aw_ild (x := 235) (q := (8, 235)) (y := (wd_w o1 8 (101 + 8 * s + 7) 3).1 8 235) (by decide) (wv15 (by decide)) rfl rfl (Nat.le_of_ble_eq_true rfl) rfl dX8_lifts_268 ?_
        refine aw_iconst (v := 1) (by decide) dX8_lifts_269 ?_
        refine aw_iaddz (z := ((wd_w o1 8 (101 + 8 * s + 7) 3).1 8 235) + 1) rfl dX8_lifts_270 ?_
        refine aw_ist (x := 235) (q := (8, 235)) (y := ((wd_w o1 8 (101 + 8 * s + 7) 3).1 8 235) + 1) (by decide) (wv15 (by decide)) rfl (Nat.le_of_ble_eq_true rfl) rfl dX8_lifts_271 ?_
        exact aw_vret rfl (by decide) (by decide) dX8_lifts_272 ⟨rfl, by (subst ho1; first | with_reducible rfl | (simp [mf_lifts, hp, cs_inc, oI, mR, wd_w_row, row_self, row_row, b1, b2, b3]; done) | (simp_all [mf_lifts, hp, cs_inc, oI, mR, wd_w_row, row_self, row_row, b1, b2, b3]; done))⟩
      · skip
        refine aw_iconst (v := 1) (by decide) dX8_lifts_225 ?_
        refine aw_goto (tgt := 230) (by decide) dX8_lifts_226 ?_
        refine aw_istore (L2 := [some (.ref (ad 14 0 0)), some (.int (nI s)), some (.int (nI l)), some (.int 4), some (.int (o.1 8 (20 * l + 3))), some (.int 1)]) (by decide) rfl rfl dX8_lifts_230 ?_
        refine aw_aload_n (x := ad 14 0 0) rfl dX8_lifts_232 ?_
        refine aw_iload_n (x := (nI s)) rfl dX8_lifts_233 ?_
        refine aw_bipush (v := 6) (by decide) dX8_lifts_234 ?_
        refine aw_iload (x := 1) rfl dX8_lifts_236 ?_
        refine aw_if_eq (tgt := 245) (by decide) dX8_lifts_238 (fun z => absurd z (by decide)) (fun _ => ?_)
        refine aw_iconst (v := 4) (by decide) dX8_lifts_241 ?_
        refine aw_goto (tgt := 246) (by decide) dX8_lifts_242 ?_
        refine aw_rV (As := [.int (nI s), .int 6, .int 4]) (S := []) (v := none) (o2 := (wd_w o1 8 (101 + 8 * s + 7) 4)) (ct_X8_give (s := s) (w := 6) (by omega) (by decide)) (mm_fit_of cbX8_give (by decide) (by decide)) wq953 cvX8_give wv14 rfl rfl rfl (Nat.le_of_ble_eq_true rfl) (by decide) (by decide) rfl dX8_lifts_246 ?_
        refine aw_aload_n (x := ad 14 0 0) rfl dX8_lifts_249 ?_
        refine aw_getr (q := (15, 0, 0)) wv14 rfl flX8_7 rfl rfl dX8_lifts_250 ?_
        refine aw_sipush (v := 231) (by decide) dX8_lifts_253 ?_
        refine aw_iload (x := 1) rfl dX8_lifts_256 ?_
        refine aw_if_eq (tgt := 265) (by decide) dX8_lifts_258 (fun z => absurd z (by decide)) (fun _ => ?_)
        refine aw_iconst (v := 5) (by decide) dX8_lifts_261 ?_
        refine aw_goto (tgt := 266) (by decide) dX8_lifts_262 ?_
        refine aw_iaddz (z := 236) (by decide) dX8_lifts_266 ?_
        refine aw_dup2 rfl rfl dX8_lifts_267 ?_
        refine aw_ild (x := 236) (q := (8, 236)) (y := (wd_w o1 8 (101 + 8 * s + 7) 4).1 8 236) (by decide) (wv15 (by decide)) rfl rfl (Nat.le_of_ble_eq_true rfl) rfl dX8_lifts_268 ?_
        refine aw_iconst (v := 1) (by decide) dX8_lifts_269 ?_
        refine aw_iaddz (z := ((wd_w o1 8 (101 + 8 * s + 7) 4).1 8 236) + 1) rfl dX8_lifts_270 ?_
        refine aw_ist (x := 236) (q := (8, 236)) (y := ((wd_w o1 8 (101 + 8 * s + 7) 4).1 8 236) + 1) (by decide) (wv15 (by decide)) rfl (Nat.le_of_ble_eq_true rfl) rfl dX8_lifts_271 ?_
        exact aw_vret rfl (by decide) (by decide) dX8_lifts_272 ⟨rfl, by (subst ho1; first | with_reducible rfl | (simp [mf_lifts, hp, cs_inc, oI, mR, wd_w_row, row_self, row_row, b1, b2, b3]; done) | (simp_all [mf_lifts, hp, cs_inc, oI, mR, wd_w_row, row_self, row_row, b1, b2, b3]; done))⟩
  · skip
    exact aw_vret rfl (by decide) (by decide) dX8_lifts_45 ⟨rfl, by (subst ho1; first | with_reducible rfl | (simp [mf_lifts, hp, cs_inc, oI, mR, wd_w_row, row_self, row_row, b1]; done) | (simp_all [mf_lifts, hp, cs_inc, oI, mR, wd_w_row, row_self, row_row, b1]; done))⟩
theorem ct_X8_lifts_5 {ad : Nat → Nat → Nat → Nat} {o : wd_S} {n m : Nat} (G : cg (o.1 8) n m) {l s e : Nat} (hl : l < 5) (hs : s < m) (hh : o.1 8 (101 + 8 * s + 1) = nI l) (hf : ok m (o.1 8 (20 * l + 3))) (hq : ok m (o.1 8 (20 * l + 4))) (hp : o.1 8 (20 * l + 1) = 5) : CT ad MX8_lifts [.ref (ad 14 0 0), .int (nI s)] o (RT none (wd_row o 8 (mf_lifts (o.1 8) m l s e))) := by
  obtain ⟨g1, g2, g3, g4, g5, g6⟩ := id G
  have hs16 : s < 16 := by omega
  refine CT.of (L := [some (.ref (ad 14 0 0)), some (.int (nI s)), none, none, none, none]) rfl rfl (by decide) (Nat.le_of_ble_eq_true rfl) rfl ?_
  refine aw_aload_n (x := ad 14 0 0) rfl dX8_lifts_0 ?_
  refine aw_iload_n (x := (nI s)) rfl dX8_lifts_1 ?_
  refine aw_iconst (v := 0) (by decide) dX8_lifts_2 ?_
  refine aw_rV (As := [.int (nI s), .int 0]) (S := []) (v := some (.int (nI l))) (o2 := o) (RTv (ct_X8_its (s := s) (w := 0) (by omega) (by decide)) hh) (mm_fit_of cbX8_its (by decide) (by decide)) wq949 cvX8_its wv14 rfl rfl rfl (Nat.le_of_ble_eq_true rfl) (by decide) (by decide) rfl dX8_lifts_3 ?_
  refine aw_istore_n (L2 := [some (.ref (ad 14 0 0)), some (.int (nI s)), some (.int (nI l)), none, none, none]) (by decide) rfl rfl dX8_lifts_6 ?_
  refine aw_aload_n (x := ad 14 0 0) rfl dX8_lifts_7 ?_
  refine aw_iload_n (x := (nI l)) rfl dX8_lifts_8 ?_
  refine aw_iconst (v := 0) (by decide) dX8_lifts_9 ?_
  refine aw_rV (As := [.int (nI l), .int 0]) (S := []) (v := some (.int 5)) (o2 := o) (RTv (ct_X8_of (l := l) (w := 0) (by omega) (by decide)) hp) (mm_fit_of cbX8_of (by decide) (by decide)) wq969 cvX8_of wv14 rfl rfl rfl (Nat.le_of_ble_eq_true rfl) (by decide) (by decide) rfl dX8_lifts_10 ?_
  refine aw_istore_n (L2 := [some (.ref (ad 14 0 0)), some (.int (nI s)), some (.int (nI l)), some (.int 5), none, none]) (by decide) rfl rfl dX8_lifts_13 ?_
  refine aw_aload_n (x := ad 14 0 0) rfl dX8_lifts_14 ?_
  refine aw_iload_n (x := (nI l)) rfl dX8_lifts_15 ?_
  refine aw_iconst (v := 2) (by decide) dX8_lifts_16 ?_
  refine aw_rV (As := [.int (nI l), .int 2]) (S := []) (v := some (.int (o.1 8 (20 * l + 3)))) (o2 := o) (ct_X8_of (l := l) (w := 2) (by omega) (by decide)) (mm_fit_of cbX8_of (by decide) (by decide)) wq969 cvX8_of wv14 rfl rfl rfl (Nat.le_of_ble_eq_true rfl) (by decide) (by decide) rfl dX8_lifts_17 ?_
  refine aw_istore (L2 := [some (.ref (ad 14 0 0)), some (.int (nI s)), some (.int (nI l)), some (.int 5), some (.int (o.1 8 (20 * l + 3))), none]) (by decide) rfl rfl dX8_lifts_20 ?_
  refine aw_aload_n (x := ad 14 0 0) rfl dX8_lifts_22 ?_
  refine aw_iload_n (x := (nI s)) rfl dX8_lifts_23 ?_
  refine aw_iconst (v := 5) (by decide) dX8_lifts_24 ?_
  refine aw_iconst (v := 1) (by decide) dX8_lifts_25 ?_
  refine aw_rV (As := [.int (nI s), .int 5, .int 1]) (S := []) (v := none) (o2 := (wd_w o 8 (101 + 8 * s + 6) 1)) (ct_X8_give (s := s) (w := 5) (by omega) (by decide)) (mm_fit_of cbX8_give (by decide) (by decide)) wq953 cvX8_give wv14 rfl rfl rfl (Nat.le_of_ble_eq_true rfl) (by decide) (by decide) rfl dX8_lifts_26 ?_
  refine aw_aload_n (x := ad 14 0 0) rfl dX8_lifts_29 ?_
  refine aw_iload_n (x := (nI s)) rfl dX8_lifts_30 ?_
  refine aw_bipush (v := 6) (by decide) dX8_lifts_31 ?_
  refine aw_iconst (v := 0) (by decide) dX8_lifts_33 ?_
  refine aw_rV (As := [.int (nI s), .int 6, .int 0]) (S := []) (v := none) (o2 := (wd_w (wd_w o 8 (101 + 8 * s + 6) 1) 8 (101 + 8 * s + 7) 0)) (ct_X8_give (s := s) (w := 6) (by omega) (by decide)) (mm_fit_of cbX8_give (by decide) (by decide)) wq953 cvX8_give wv14 rfl rfl rfl (Nat.le_of_ble_eq_true rfl) (by decide) (by decide) rfl dX8_lifts_34 ?_
  refine aw_aload_n (x := ad 14 0 0) rfl dX8_lifts_37 ?_
  refine aw_iload_n (x := (nI s)) rfl dX8_lifts_38 ?_
  obtain ⟨o1, ho1⟩ : ∃ z, z = (wd_w (wd_w o 8 (101 + 8 * s + 6) 1) 8 (101 + 8 * s + 7) 0) := ⟨_, rfl⟩
  rw [← ho1]
  have Go1 : cg (o1.1 8) n m := by rw [ho1]; simp only [wd_w_row, row_self]; exact cg_upd (cg_upd (G) (by omega) (by omega) (fun _ _ => ⟨by omega, by omega⟩)) (by omega) (by omega) (fun _ _ => ⟨by omega, by omega⟩)
  have hho1 : o1.1 8 (101 + 8 * s + 1) = nI l := by rw [ho1]; simp only [wd_w_row, row_self]; rw [upd_ne _ _ (by omega)]; rw [upd_ne _ _ (by omega)]; exact hh
  have hpo1 : o1.1 8 (20 * l + 1) = 5 := by rw [ho1]; simp only [wd_w_row, row_self]; rw [upd_ne _ _ (by omega)]; rw [upd_ne _ _ (by omega)]; exact hp
  refine aw_rV (As := [.int (nI s)]) (S := []) (v := some (.int (mf_cut (o1.1 8) l s))) (o2 := o1) (ct_X8_cut Go1 hl (by omega) hho1) (mm_fit_of cbX8_cut (by decide) (by decide)) wq993 cvX8_cut wv14 rfl rfl rfl (Nat.le_of_ble_eq_true rfl) (by decide) (by decide) rfl dX8_lifts_39 ?_
  refine aw_if_eq (tgt := 46) (by decide) dX8_lifts_42 (fun b1 => ?_) (fun b1 => ?_)
  · skip
    refine aw_iload_n (x := 5) rfl dX8_lifts_46 ?_
    refine aw_if_ne (tgt := 62) (by decide) dX8_lifts_47 (fun _ => ?_) (fun z => absurd z (by decide))
    refine aw_iload_n (x := 5) rfl dX8_lifts_62 ?_
    refine aw_iconst (v := 3) (by decide) dX8_lifts_63 ?_
    refine aw_icmp_ne (tgt := 124) (by decide) dX8_lifts_64 (fun _ => ?_) (fun z => absurd z (by decide))
    refine aw_iload_n (x := 5) rfl dX8_lifts_124 ?_
    refine aw_bipush (v := 7) (by decide) dX8_lifts_125 ?_
    refine aw_icmp_ne (tgt := 148) (by decide) dX8_lifts_127 (fun _ => ?_) (fun z => absurd z (by decide))
    refine aw_iload_n (x := 5) rfl dX8_lifts_148 ?_
    refine aw_bipush (v := 7) (by decide) dX8_lifts_149 ?_
    refine aw_icmp_ne (tgt := 180) (by decide) dX8_lifts_151 (fun _ => ?_) (fun z => absurd z (by decide))
    refine aw_iload_n (x := 5) rfl dX8_lifts_180 ?_
    refine aw_bipush (v := 8) (by decide) dX8_lifts_181 ?_
    refine aw_icmp_ne (tgt := 192) (by decide) dX8_lifts_183 (fun _ => ?_) (fun z => absurd z (by decide))
    refine aw_iload_n (x := 5) rfl dX8_lifts_192 ?_
    refine aw_iconst (v := 4) (by decide) dX8_lifts_193 ?_
    refine aw_icmp_eq (tgt := 203) (by decide) dX8_lifts_194 (fun z => absurd z (by decide)) (fun _ => ?_)
    refine aw_iload_n (x := 5) rfl dX8_lifts_197 ?_
    refine aw_bipush (v := 8) (by decide) dX8_lifts_198 ?_
    refine aw_icmp_ne (tgt := 229) (by decide) dX8_lifts_200 (fun _ => ?_) (fun z => absurd z (by decide))
    refine aw_iconst (v := 0) (by decide) dX8_lifts_229 ?_
    refine aw_istore (L2 := [some (.ref (ad 14 0 0)), some (.int (nI s)), some (.int (nI l)), some (.int 5), some (.int (o.1 8 (20 * l + 3))), some (.int 0)]) (by decide) rfl rfl dX8_lifts_230 ?_
    refine aw_aload_n (x := ad 14 0 0) rfl dX8_lifts_232 ?_
    refine aw_iload_n (x := (nI s)) rfl dX8_lifts_233 ?_
    refine aw_bipush (v := 6) (by decide) dX8_lifts_234 ?_
    refine aw_iload (x := 0) rfl dX8_lifts_236 ?_
    refine aw_if_eq (tgt := 245) (by decide) dX8_lifts_238 (fun _ => ?_) (fun z => absurd z (by decide))
    refine aw_iconst (v := 3) (by decide) dX8_lifts_245 ?_
    refine aw_rV (As := [.int (nI s), .int 6, .int 3]) (S := []) (v := none) (o2 := (wd_w o1 8 (101 + 8 * s + 7) 3)) (ct_X8_give (s := s) (w := 6) (by omega) (by decide)) (mm_fit_of cbX8_give (by decide) (by decide)) wq953 cvX8_give wv14 rfl rfl rfl (Nat.le_of_ble_eq_true rfl) (by decide) (by decide) rfl dX8_lifts_246 ?_
    refine aw_aload_n (x := ad 14 0 0) rfl dX8_lifts_249 ?_
    refine aw_getr (q := (15, 0, 0)) wv14 rfl flX8_7 rfl rfl dX8_lifts_250 ?_
    refine aw_sipush (v := 231) (by decide) dX8_lifts_253 ?_
    refine aw_iload (x := 0) rfl dX8_lifts_256 ?_
    refine aw_if_eq (tgt := 265) (by decide) dX8_lifts_258 (fun _ => ?_) (fun z => absurd z (by decide))
    refine aw_iconst (v := 4) (by decide) dX8_lifts_265 ?_
    refine aw_iaddz (z := 235) (by decide) dX8_lifts_266 ?_
    refine aw_dup2 rfl rfl dX8_lifts_267 ?_
    refine aw_ild (x := 235) (q := (8, 235)) (y := (wd_w o1 8 (101 + 8 * s + 7) 3).1 8 235) (by decide) (wv15 (by decide)) rfl rfl (Nat.le_of_ble_eq_true rfl) rfl dX8_lifts_268 ?_
    refine aw_iconst (v := 1) (by decide) dX8_lifts_269 ?_
    refine aw_iaddz (z := ((wd_w o1 8 (101 + 8 * s + 7) 3).1 8 235) + 1) rfl dX8_lifts_270 ?_
    refine aw_ist (x := 235) (q := (8, 235)) (y := ((wd_w o1 8 (101 + 8 * s + 7) 3).1 8 235) + 1) (by decide) (wv15 (by decide)) rfl (Nat.le_of_ble_eq_true rfl) rfl dX8_lifts_271 ?_
    exact aw_vret rfl (by decide) (by decide) dX8_lifts_272 ⟨rfl, by (subst ho1; first | with_reducible rfl | (simp [mf_lifts, hp, cs_inc, oI, mR, wd_w_row, row_self, row_row, b1]; done) | (simp_all [mf_lifts, hp, cs_inc, oI, mR, wd_w_row, row_self, row_row, b1]; done))⟩
  · skip
    exact aw_vret rfl (by decide) (by decide) dX8_lifts_45 ⟨rfl, by (subst ho1; first | with_reducible rfl | (simp [mf_lifts, hp, cs_inc, oI, mR, wd_w_row, row_self, row_row, b1]; done) | (simp_all [mf_lifts, hp, cs_inc, oI, mR, wd_w_row, row_self, row_row, b1]; done))⟩
theorem ct_X8_lifts_6 {ad : Nat → Nat → Nat → Nat} {o : wd_S} {n m : Nat} (G : cg (o.1 8) n m) {l s e : Nat} (hl : l < 5) (hs : s < m) (hh : o.1 8 (101 + 8 * s + 1) = nI l) (hf : ok m (o.1 8 (20 * l + 3))) (hq : ok m (o.1 8 (20 * l + 4))) (hp : o.1 8 (20 * l + 1) = 6) : CT ad MX8_lifts [.ref (ad 14 0 0), .int (nI s)] o (RT none (wd_row o 8 (mf_lifts (o.1 8) m l s e))) := by
  obtain ⟨g1, g2, g3, g4, g5, g6⟩ := id G
  have hs16 : s < 16 := by omega
  refine CT.of (L := [some (.ref (ad 14 0 0)), some (.int (nI s)), none, none, none, none]) rfl rfl (by decide) (Nat.le_of_ble_eq_true rfl) rfl ?_
  refine aw_aload_n (x := ad 14 0 0) rfl dX8_lifts_0 ?_
  refine aw_iload_n (x := (nI s)) rfl dX8_lifts_1 ?_
  refine aw_iconst (v := 0) (by decide) dX8_lifts_2 ?_
  refine aw_rV (As := [.int (nI s), .int 0]) (S := []) (v := some (.int (nI l))) (o2 := o) (RTv (ct_X8_its (s := s) (w := 0) (by omega) (by decide)) hh) (mm_fit_of cbX8_its (by decide) (by decide)) wq949 cvX8_its wv14 rfl rfl rfl (Nat.le_of_ble_eq_true rfl) (by decide) (by decide) rfl dX8_lifts_3 ?_
  refine aw_istore_n (L2 := [some (.ref (ad 14 0 0)), some (.int (nI s)), some (.int (nI l)), none, none, none]) (by decide) rfl rfl dX8_lifts_6 ?_
  refine aw_aload_n (x := ad 14 0 0) rfl dX8_lifts_7 ?_
  refine aw_iload_n (x := (nI l)) rfl dX8_lifts_8 ?_
  refine aw_iconst (v := 0) (by decide) dX8_lifts_9 ?_
  refine aw_rV (As := [.int (nI l), .int 0]) (S := []) (v := some (.int 6)) (o2 := o) (RTv (ct_X8_of (l := l) (w := 0) (by omega) (by decide)) hp) (mm_fit_of cbX8_of (by decide) (by decide)) wq969 cvX8_of wv14 rfl rfl rfl (Nat.le_of_ble_eq_true rfl) (by decide) (by decide) rfl dX8_lifts_10 ?_
  refine aw_istore_n (L2 := [some (.ref (ad 14 0 0)), some (.int (nI s)), some (.int (nI l)), some (.int 6), none, none]) (by decide) rfl rfl dX8_lifts_13 ?_
  refine aw_aload_n (x := ad 14 0 0) rfl dX8_lifts_14 ?_
  refine aw_iload_n (x := (nI l)) rfl dX8_lifts_15 ?_
  refine aw_iconst (v := 2) (by decide) dX8_lifts_16 ?_
  refine aw_rV (As := [.int (nI l), .int 2]) (S := []) (v := some (.int (o.1 8 (20 * l + 3)))) (o2 := o) (ct_X8_of (l := l) (w := 2) (by omega) (by decide)) (mm_fit_of cbX8_of (by decide) (by decide)) wq969 cvX8_of wv14 rfl rfl rfl (Nat.le_of_ble_eq_true rfl) (by decide) (by decide) rfl dX8_lifts_17 ?_
  refine aw_istore (L2 := [some (.ref (ad 14 0 0)), some (.int (nI s)), some (.int (nI l)), some (.int 6), some (.int (o.1 8 (20 * l + 3))), none]) (by decide) rfl rfl dX8_lifts_20 ?_
  refine aw_aload_n (x := ad 14 0 0) rfl dX8_lifts_22 ?_
  refine aw_iload_n (x := (nI s)) rfl dX8_lifts_23 ?_
  refine aw_iconst (v := 5) (by decide) dX8_lifts_24 ?_
  refine aw_iconst (v := 1) (by decide) dX8_lifts_25 ?_
  refine aw_rV (As := [.int (nI s), .int 5, .int 1]) (S := []) (v := none) (o2 := (wd_w o 8 (101 + 8 * s + 6) 1)) (ct_X8_give (s := s) (w := 5) (by omega) (by decide)) (mm_fit_of cbX8_give (by decide) (by decide)) wq953 cvX8_give wv14 rfl rfl rfl (Nat.le_of_ble_eq_true rfl) (by decide) (by decide) rfl dX8_lifts_26 ?_
  refine aw_aload_n (x := ad 14 0 0) rfl dX8_lifts_29 ?_
  refine aw_iload_n (x := (nI s)) rfl dX8_lifts_30 ?_
  refine aw_bipush (v := 6) (by decide) dX8_lifts_31 ?_
  refine aw_iconst (v := 0) (by decide) dX8_lifts_33 ?_
  refine aw_rV (As := [.int (nI s), .int 6, .int 0]) (S := []) (v := none) (o2 := (wd_w (wd_w o 8 (101 + 8 * s + 6) 1) 8 (101 + 8 * s + 7) 0)) (ct_X8_give (s := s) (w := 6) (by omega) (by decide)) (mm_fit_of cbX8_give (by decide) (by decide)) wq953 cvX8_give wv14 rfl rfl rfl (Nat.le_of_ble_eq_true rfl) (by decide) (by decide) rfl dX8_lifts_34 ?_
  refine aw_aload_n (x := ad 14 0 0) rfl dX8_lifts_37 ?_
  refine aw_iload_n (x := (nI s)) rfl dX8_lifts_38 ?_
  obtain ⟨o1, ho1⟩ : ∃ z, z = (wd_w (wd_w o 8 (101 + 8 * s + 6) 1) 8 (101 + 8 * s + 7) 0) := ⟨_, rfl⟩
  rw [← ho1]
  have Go1 : cg (o1.1 8) n m := by rw [ho1]; simp only [wd_w_row, row_self]; exact cg_upd (cg_upd (G) (by omega) (by omega) (fun _ _ => ⟨by omega, by omega⟩)) (by omega) (by omega) (fun _ _ => ⟨by omega, by omega⟩)
  have hho1 : o1.1 8 (101 + 8 * s + 1) = nI l := by rw [ho1]; simp only [wd_w_row, row_self]; rw [upd_ne _ _ (by omega)]; rw [upd_ne _ _ (by omega)]; exact hh
  have hpo1 : o1.1 8 (20 * l + 1) = 6 := by rw [ho1]; simp only [wd_w_row, row_self]; rw [upd_ne _ _ (by omega)]; rw [upd_ne _ _ (by omega)]; exact hp
  refine aw_rV (As := [.int (nI s)]) (S := []) (v := some (.int (mf_cut (o1.1 8) l s))) (o2 := o1) (ct_X8_cut Go1 hl (by omega) hho1) (mm_fit_of cbX8_cut (by decide) (by decide)) wq993 cvX8_cut wv14 rfl rfl rfl (Nat.le_of_ble_eq_true rfl) (by decide) (by decide) rfl dX8_lifts_39 ?_
  refine aw_if_eq (tgt := 46) (by decide) dX8_lifts_42 (fun b1 => ?_) (fun b1 => ?_)
  · skip
    refine aw_iload_n (x := 6) rfl dX8_lifts_46 ?_
    refine aw_if_ne (tgt := 62) (by decide) dX8_lifts_47 (fun _ => ?_) (fun z => absurd z (by decide))
    refine aw_iload_n (x := 6) rfl dX8_lifts_62 ?_
    refine aw_iconst (v := 3) (by decide) dX8_lifts_63 ?_
    refine aw_icmp_ne (tgt := 124) (by decide) dX8_lifts_64 (fun _ => ?_) (fun z => absurd z (by decide))
    refine aw_iload_n (x := 6) rfl dX8_lifts_124 ?_
    refine aw_bipush (v := 7) (by decide) dX8_lifts_125 ?_
    refine aw_icmp_ne (tgt := 148) (by decide) dX8_lifts_127 (fun _ => ?_) (fun z => absurd z (by decide))
    refine aw_iload_n (x := 6) rfl dX8_lifts_148 ?_
    refine aw_bipush (v := 7) (by decide) dX8_lifts_149 ?_
    refine aw_icmp_ne (tgt := 180) (by decide) dX8_lifts_151 (fun _ => ?_) (fun z => absurd z (by decide))
    refine aw_iload_n (x := 6) rfl dX8_lifts_180 ?_
    refine aw_bipush (v := 8) (by decide) dX8_lifts_181 ?_
    refine aw_icmp_ne (tgt := 192) (by decide) dX8_lifts_183 (fun _ => ?_) (fun z => absurd z (by decide))
    refine aw_iload_n (x := 6) rfl dX8_lifts_192 ?_
    refine aw_iconst (v := 4) (by decide) dX8_lifts_193 ?_
    refine aw_icmp_eq (tgt := 203) (by decide) dX8_lifts_194 (fun z => absurd z (by decide)) (fun _ => ?_)
    refine aw_iload_n (x := 6) rfl dX8_lifts_197 ?_
    refine aw_bipush (v := 8) (by decide) dX8_lifts_198 ?_
    refine aw_icmp_ne (tgt := 229) (by decide) dX8_lifts_200 (fun _ => ?_) (fun z => absurd z (by decide))
    refine aw_iconst (v := 0) (by decide) dX8_lifts_229 ?_
    refine aw_istore (L2 := [some (.ref (ad 14 0 0)), some (.int (nI s)), some (.int (nI l)), some (.int 6), some (.int (o.1 8 (20 * l + 3))), some (.int 0)]) (by decide) rfl rfl dX8_lifts_230 ?_
    refine aw_aload_n (x := ad 14 0 0) rfl dX8_lifts_232 ?_
    refine aw_iload_n (x := (nI s)) rfl dX8_lifts_233 ?_
    refine aw_bipush (v := 6) (by decide) dX8_lifts_234 ?_
    refine aw_iload (x := 0) rfl dX8_lifts_236 ?_
    refine aw_if_eq (tgt := 245) (by decide) dX8_lifts_238 (fun _ => ?_) (fun z => absurd z (by decide))
    refine aw_iconst (v := 3) (by decide) dX8_lifts_245 ?_
    refine aw_rV (As := [.int (nI s), .int 6, .int 3]) (S := []) (v := none) (o2 := (wd_w o1 8 (101 + 8 * s + 7) 3)) (ct_X8_give (s := s) (w := 6) (by omega) (by decide)) (mm_fit_of cbX8_give (by decide) (by decide)) wq953 cvX8_give wv14 rfl rfl rfl (Nat.le_of_ble_eq_true rfl) (by decide) (by decide) rfl dX8_lifts_246 ?_
    refine aw_aload_n (x := ad 14 0 0) rfl dX8_lifts_249 ?_
    refine aw_getr (q := (15, 0, 0)) wv14 rfl flX8_7 rfl rfl dX8_lifts_250 ?_
    refine aw_sipush (v := 231) (by decide) dX8_lifts_253 ?_
    refine aw_iload (x := 0) rfl dX8_lifts_256 ?_
    refine aw_if_eq (tgt := 265) (by decide) dX8_lifts_258 (fun _ => ?_) (fun z => absurd z (by decide))
    refine aw_iconst (v := 4) (by decide) dX8_lifts_265 ?_
    refine aw_iaddz (z := 235) (by decide) dX8_lifts_266 ?_
    refine aw_dup2 rfl rfl dX8_lifts_267 ?_
    refine aw_ild (x := 235) (q := (8, 235)) (y := (wd_w o1 8 (101 + 8 * s + 7) 3).1 8 235) (by decide) (wv15 (by decide)) rfl rfl (Nat.le_of_ble_eq_true rfl) rfl dX8_lifts_268 ?_
    refine aw_iconst (v := 1) (by decide) dX8_lifts_269 ?_
    refine aw_iaddz (z := ((wd_w o1 8 (101 + 8 * s + 7) 3).1 8 235) + 1) rfl dX8_lifts_270 ?_
    refine aw_ist (x := 235) (q := (8, 235)) (y := ((wd_w o1 8 (101 + 8 * s + 7) 3).1 8 235) + 1) (by decide) (wv15 (by decide)) rfl (Nat.le_of_ble_eq_true rfl) rfl dX8_lifts_271 ?_
    exact aw_vret rfl (by decide) (by decide) dX8_lifts_272 ⟨rfl, by (subst ho1; first | with_reducible rfl | (simp [mf_lifts, hp, cs_inc, oI, mR, wd_w_row, row_self, row_row, b1]; done) | (simp_all [mf_lifts, hp, cs_inc, oI, mR, wd_w_row, row_self, row_row, b1]; done))⟩
  · skip
    exact aw_vret rfl (by decide) (by decide) dX8_lifts_45 ⟨rfl, by (subst ho1; first | with_reducible rfl | (simp [mf_lifts, hp, cs_inc, oI, mR, wd_w_row, row_self, row_row, b1]; done) | (simp_all [mf_lifts, hp, cs_inc, oI, mR, wd_w_row, row_self, row_row, b1]; done))⟩
theorem ct_X8_lifts_7 {ad : Nat → Nat → Nat → Nat} {o : wd_S} {n m : Nat} (G : cg (o.1 8) n m) {l s e : Nat} (hl : l < 5) (hs : s < m) (hh : o.1 8 (101 + 8 * s + 1) = nI l) (hf : ok m (o.1 8 (20 * l + 3))) (hq : ok m (o.1 8 (20 * l + 4))) (hp : o.1 8 (20 * l + 1) = 7) : CT ad MX8_lifts [.ref (ad 14 0 0), .int (nI s)] o (RT none (wd_row o 8 (mf_lifts (o.1 8) m l s e))) := by
  obtain ⟨g1, g2, g3, g4, g5, g6⟩ := id G
  have hs16 : s < 16 := by omega
  refine CT.of (L := [some (.ref (ad 14 0 0)), some (.int (nI s)), none, none, none, none]) rfl rfl (by decide) (Nat.le_of_ble_eq_true rfl) rfl ?_
  refine aw_aload_n (x := ad 14 0 0) rfl dX8_lifts_0 ?_
  refine aw_iload_n (x := (nI s)) rfl dX8_lifts_1 ?_
  refine aw_iconst (v := 0) (by decide) dX8_lifts_2 ?_
  refine aw_rV (As := [.int (nI s), .int 0]) (S := []) (v := some (.int (nI l))) (o2 := o) (RTv (ct_X8_its (s := s) (w := 0) (by omega) (by decide)) hh) (mm_fit_of cbX8_its (by decide) (by decide)) wq949 cvX8_its wv14 rfl rfl rfl (Nat.le_of_ble_eq_true rfl) (by decide) (by decide) rfl dX8_lifts_3 ?_
  refine aw_istore_n (L2 := [some (.ref (ad 14 0 0)), some (.int (nI s)), some (.int (nI l)), none, none, none]) (by decide) rfl rfl dX8_lifts_6 ?_
  refine aw_aload_n (x := ad 14 0 0) rfl dX8_lifts_7 ?_
  refine aw_iload_n (x := (nI l)) rfl dX8_lifts_8 ?_
  refine aw_iconst (v := 0) (by decide) dX8_lifts_9 ?_
  refine aw_rV (As := [.int (nI l), .int 0]) (S := []) (v := some (.int 7)) (o2 := o) (RTv (ct_X8_of (l := l) (w := 0) (by omega) (by decide)) hp) (mm_fit_of cbX8_of (by decide) (by decide)) wq969 cvX8_of wv14 rfl rfl rfl (Nat.le_of_ble_eq_true rfl) (by decide) (by decide) rfl dX8_lifts_10 ?_
  refine aw_istore_n (L2 := [some (.ref (ad 14 0 0)), some (.int (nI s)), some (.int (nI l)), some (.int 7), none, none]) (by decide) rfl rfl dX8_lifts_13 ?_
  refine aw_aload_n (x := ad 14 0 0) rfl dX8_lifts_14 ?_
  refine aw_iload_n (x := (nI l)) rfl dX8_lifts_15 ?_
  refine aw_iconst (v := 2) (by decide) dX8_lifts_16 ?_
  refine aw_rV (As := [.int (nI l), .int 2]) (S := []) (v := some (.int (o.1 8 (20 * l + 3)))) (o2 := o) (ct_X8_of (l := l) (w := 2) (by omega) (by decide)) (mm_fit_of cbX8_of (by decide) (by decide)) wq969 cvX8_of wv14 rfl rfl rfl (Nat.le_of_ble_eq_true rfl) (by decide) (by decide) rfl dX8_lifts_17 ?_
  refine aw_istore (L2 := [some (.ref (ad 14 0 0)), some (.int (nI s)), some (.int (nI l)), some (.int 7), some (.int (o.1 8 (20 * l + 3))), none]) (by decide) rfl rfl dX8_lifts_20 ?_
  refine aw_aload_n (x := ad 14 0 0) rfl dX8_lifts_22 ?_
  refine aw_iload_n (x := (nI s)) rfl dX8_lifts_23 ?_
  refine aw_iconst (v := 5) (by decide) dX8_lifts_24 ?_
  refine aw_iconst (v := 1) (by decide) dX8_lifts_25 ?_
  refine aw_rV (As := [.int (nI s), .int 5, .int 1]) (S := []) (v := none) (o2 := (wd_w o 8 (101 + 8 * s + 6) 1)) (ct_X8_give (s := s) (w := 5) (by omega) (by decide)) (mm_fit_of cbX8_give (by decide) (by decide)) wq953 cvX8_give wv14 rfl rfl rfl (Nat.le_of_ble_eq_true rfl) (by decide) (by decide) rfl dX8_lifts_26 ?_
  refine aw_aload_n (x := ad 14 0 0) rfl dX8_lifts_29 ?_
  refine aw_iload_n (x := (nI s)) rfl dX8_lifts_30 ?_
  refine aw_bipush (v := 6) (by decide) dX8_lifts_31 ?_
  refine aw_iconst (v := 0) (by decide) dX8_lifts_33 ?_
  refine aw_rV (As := [.int (nI s), .int 6, .int 0]) (S := []) (v := none) (o2 := (wd_w (wd_w o 8 (101 + 8 * s + 6) 1) 8 (101 + 8 * s + 7) 0)) (ct_X8_give (s := s) (w := 6) (by omega) (by decide)) (mm_fit_of cbX8_give (by decide) (by decide)) wq953 cvX8_give wv14 rfl rfl rfl (Nat.le_of_ble_eq_true rfl) (by decide) (by decide) rfl dX8_lifts_34 ?_
  refine aw_aload_n (x := ad 14 0 0) rfl dX8_lifts_37 ?_
  refine aw_iload_n (x := (nI s)) rfl dX8_lifts_38 ?_
  obtain ⟨o1, ho1⟩ : ∃ z, z = (wd_w (wd_w o 8 (101 + 8 * s + 6) 1) 8 (101 + 8 * s + 7) 0) := ⟨_, rfl⟩
  rw [← ho1]
  have Go1 : cg (o1.1 8) n m := by rw [ho1]; simp only [wd_w_row, row_self]; exact cg_upd (cg_upd (G) (by omega) (by omega) (fun _ _ => ⟨by omega, by omega⟩)) (by omega) (by omega) (fun _ _ => ⟨by omega, by omega⟩)
  have hho1 : o1.1 8 (101 + 8 * s + 1) = nI l := by rw [ho1]; simp only [wd_w_row, row_self]; rw [upd_ne _ _ (by omega)]; rw [upd_ne _ _ (by omega)]; exact hh
  have hpo1 : o1.1 8 (20 * l + 1) = 7 := by rw [ho1]; simp only [wd_w_row, row_self]; rw [upd_ne _ _ (by omega)]; rw [upd_ne _ _ (by omega)]; exact hp
  refine aw_rV (As := [.int (nI s)]) (S := []) (v := some (.int (mf_cut (o1.1 8) l s))) (o2 := o1) (ct_X8_cut Go1 hl (by omega) hho1) (mm_fit_of cbX8_cut (by decide) (by decide)) wq993 cvX8_cut wv14 rfl rfl rfl (Nat.le_of_ble_eq_true rfl) (by decide) (by decide) rfl dX8_lifts_39 ?_
  refine aw_if_eq (tgt := 46) (by decide) dX8_lifts_42 (fun b1 => ?_) (fun b1 => ?_)
  · skip
    refine aw_iload_n (x := 7) rfl dX8_lifts_46 ?_
    refine aw_if_ne (tgt := 62) (by decide) dX8_lifts_47 (fun _ => ?_) (fun z => absurd z (by decide))
    refine aw_iload_n (x := 7) rfl dX8_lifts_62 ?_
    refine aw_iconst (v := 3) (by decide) dX8_lifts_63 ?_
    refine aw_icmp_ne (tgt := 124) (by decide) dX8_lifts_64 (fun _ => ?_) (fun z => absurd z (by decide))
    refine aw_iload_n (x := 7) rfl dX8_lifts_124 ?_
    refine aw_bipush (v := 7) (by decide) dX8_lifts_125 ?_
    refine aw_icmp_ne (tgt := 148) (by decide) dX8_lifts_127 (fun z => absurd z (by decide)) (fun _ => ?_)
    refine aw_iload_n (x := (nI s)) rfl dX8_lifts_130 ?_
    refine aw_iload (x := (o.1 8 (20 * l + 3))) rfl dX8_lifts_131 ?_
    refine aw_icmp_ne (tgt := 148) (by decide) dX8_lifts_133 (fun b2 => ?_) (fun b2 => ?_)
    · skip
      refine aw_iload_n (x := 7) rfl dX8_lifts_148 ?_
      refine aw_bipush (v := 7) (by decide) dX8_lifts_149 ?_
      refine aw_icmp_ne (tgt := 180) (by decide) dX8_lifts_151 (fun z => absurd z (by decide)) (fun _ => ?_)
      refine aw_aload_n (x := ad 14 0 0) rfl dX8_lifts_154 ?_
      refine aw_iload_n (x := (nI l)) rfl dX8_lifts_155 ?_
      refine aw_bipush (v := 8) (by decide) dX8_lifts_156 ?_
      refine aw_iload (x := (o.1 8 (20 * l + 3))) rfl dX8_lifts_158 ?_
      refine aw_iload_n (x := (nI s)) rfl dX8_lifts_160 ?_
      refine aw_iconst (v := (-1)) (by decide) dX8_lifts_161 ?_
      refine aw_rV (As := [.int (nI l), .int 8, .int (o.1 8 (20 * l + 3)), .int (nI s), .int (-1)]) (S := []) (v := none) (o2 := (wd_row o1 8 (mf_comes (o1.1 8) l 8 (o.1 8 (20 * l + 3)) (nI s) (-1)))) (ct_X8_comes (by omega)) (mm_fit_of cbX8_comes (by decide) (by decide)) wq1013 cvX8_comes wv14 rfl rfl rfl (Nat.le_of_ble_eq_true rfl) (by decide) (by decide) rfl dX8_lifts_162 ?_
      obtain ⟨o2, ho2⟩ : ∃ z, z = (wd_row o1 8 (mf_comes (o1.1 8) l 8 (o.1 8 (20 * l + 3)) (nI s) (-1))) := ⟨_, rfl⟩
      rw [← ho2]
      have Go2 : cg (o2.1 8) n m := by rw [ho2]; rw [row_self]; exact cg_stl (stl_comes (by omega)) Go1
      have hho1o2 : o2.1 8 (101 + 8 * s + 1) = nI l := by rw [ho2]; rw [row_self]; rw [mcomes_ne (by omega)]; exact hho1
      refine aw_aload_n (x := ad 14 0 0) rfl dX8_lifts_165 ?_
      refine aw_getr (q := (15, 0, 0)) wv14 rfl flX8_7 rfl rfl dX8_lifts_166 ?_
      refine aw_sipush (v := 232) (by decide) dX8_lifts_169 ?_
      refine aw_dup2 rfl rfl dX8_lifts_172 ?_
      refine aw_ild (x := 232) (q := (8, 232)) (y := o2.1 8 232) (by decide) (wv15 (by decide)) rfl rfl (Nat.le_of_ble_eq_true rfl) rfl dX8_lifts_173 ?_
      refine aw_iconst (v := 1) (by decide) dX8_lifts_174 ?_
      refine aw_iaddz (z := (o2.1 8 232) + 1) rfl dX8_lifts_175 ?_
      refine aw_ist (x := 232) (q := (8, 232)) (y := (o2.1 8 232) + 1) (by decide) (wv15 (by decide)) rfl (Nat.le_of_ble_eq_true rfl) rfl dX8_lifts_176 ?_
      refine aw_goto (tgt := 272) (by decide) dX8_lifts_177 ?_
      exact aw_vret rfl (by decide) (by decide) dX8_lifts_272 ⟨rfl, by (subst ho2; subst ho1; first | with_reducible rfl | (simp [mf_lifts, hp, cs_inc, oI, mR, wd_w_row, row_self, row_row, b1, b2]; done) | (simp_all [mf_lifts, hp, cs_inc, oI, mR, wd_w_row, row_self, row_row, b1, b2]; done))⟩
    · skip
      refine aw_aload_n (x := ad 14 0 0) rfl dX8_lifts_136 ?_
      refine aw_iload_n (x := (nI l)) rfl dX8_lifts_137 ?_
      refine aw_iconst (v := 1) (by decide) dX8_lifts_138 ?_
      refine aw_iload_n (x := (nI s)) rfl dX8_lifts_139 ?_
      refine aw_iconst (v := (-1)) (by decide) dX8_lifts_140 ?_
      refine aw_iconst (v := (-1)) (by decide) dX8_lifts_141 ?_
      refine aw_rV (As := [.int (nI l), .int 1, .int (nI s), .int (-1), .int (-1)]) (S := []) (v := none) (o2 := (wd_row o1 8 (mf_comes (o1.1 8) l 1 (nI s) (-1) (-1)))) (ct_X8_comes (by omega)) (mm_fit_of cbX8_comes (by decide) (by decide)) wq1013 cvX8_comes wv14 rfl rfl rfl (Nat.le_of_ble_eq_true rfl) (by decide) (by decide) rfl dX8_lifts_142 ?_
      obtain ⟨o3, ho3⟩ : ∃ z, z = (wd_row o1 8 (mf_comes (o1.1 8) l 1 (nI s) (-1) (-1))) := ⟨_, rfl⟩
      rw [← ho3]
      have Go3 : cg (o3.1 8) n m := by rw [ho3]; rw [row_self]; exact cg_stl (stl_comes (by omega)) Go1
      have hho1o3 : o3.1 8 (101 + 8 * s + 1) = nI l := by rw [ho3]; rw [row_self]; rw [mcomes_ne (by omega)]; exact hho1
      refine aw_goto (tgt := 272) (by decide) dX8_lifts_145 ?_
      exact aw_vret rfl (by decide) (by decide) dX8_lifts_272 ⟨rfl, by (subst ho3; subst ho1; first | with_reducible rfl | (simp [mf_lifts, hp, cs_inc, oI, mR, wd_w_row, row_self, row_row, b1, b2]; done) | (simp_all [mf_lifts, hp, cs_inc, oI, mR, wd_w_row, row_self, row_row, b1, b2]; done))⟩
  · skip
    exact aw_vret rfl (by decide) (by decide) dX8_lifts_45 ⟨rfl, by (subst ho1; first | with_reducible rfl | (simp [mf_lifts, hp, cs_inc, oI, mR, wd_w_row, row_self, row_row, b1]; done) | (simp_all [mf_lifts, hp, cs_inc, oI, mR, wd_w_row, row_self, row_row, b1]; done))⟩
theorem ct_X8_lifts_8 {ad : Nat → Nat → Nat → Nat} {o : wd_S} {n m : Nat} (G : cg (o.1 8) n m) {l s e : Nat} (hl : l < 5) (hs : s < m) (hh : o.1 8 (101 + 8 * s + 1) = nI l) (hf : ok m (o.1 8 (20 * l + 3))) (hq : ok m (o.1 8 (20 * l + 4))) (hp : o.1 8 (20 * l + 1) = 8) : CT ad MX8_lifts [.ref (ad 14 0 0), .int (nI s)] o (RT none (wd_row o 8 (mf_lifts (o.1 8) m l s e))) := by
  obtain ⟨g1, g2, g3, g4, g5, g6⟩ := id G
  have hs16 : s < 16 := by omega
  refine CT.of (L := [some (.ref (ad 14 0 0)), some (.int (nI s)), none, none, none, none]) rfl rfl (by decide) (Nat.le_of_ble_eq_true rfl) rfl ?_
  refine aw_aload_n (x := ad 14 0 0) rfl dX8_lifts_0 ?_
  refine aw_iload_n (x := (nI s)) rfl dX8_lifts_1 ?_
  refine aw_iconst (v := 0) (by decide) dX8_lifts_2 ?_
  refine aw_rV (As := [.int (nI s), .int 0]) (S := []) (v := some (.int (nI l))) (o2 := o) (RTv (ct_X8_its (s := s) (w := 0) (by omega) (by decide)) hh) (mm_fit_of cbX8_its (by decide) (by decide)) wq949 cvX8_its wv14 rfl rfl rfl (Nat.le_of_ble_eq_true rfl) (by decide) (by decide) rfl dX8_lifts_3 ?_
  refine aw_istore_n (L2 := [some (.ref (ad 14 0 0)), some (.int (nI s)), some (.int (nI l)), none, none, none]) (by decide) rfl rfl dX8_lifts_6 ?_
  refine aw_aload_n (x := ad 14 0 0) rfl dX8_lifts_7 ?_
  refine aw_iload_n (x := (nI l)) rfl dX8_lifts_8 ?_
  refine aw_iconst (v := 0) (by decide) dX8_lifts_9 ?_
  refine aw_rV (As := [.int (nI l), .int 0]) (S := []) (v := some (.int 8)) (o2 := o) (RTv (ct_X8_of (l := l) (w := 0) (by omega) (by decide)) hp) (mm_fit_of cbX8_of (by decide) (by decide)) wq969 cvX8_of wv14 rfl rfl rfl (Nat.le_of_ble_eq_true rfl) (by decide) (by decide) rfl dX8_lifts_10 ?_
  refine aw_istore_n (L2 := [some (.ref (ad 14 0 0)), some (.int (nI s)), some (.int (nI l)), some (.int 8), none, none]) (by decide) rfl rfl dX8_lifts_13 ?_
  refine aw_aload_n (x := ad 14 0 0) rfl dX8_lifts_14 ?_
  refine aw_iload_n (x := (nI l)) rfl dX8_lifts_15 ?_
  refine aw_iconst (v := 2) (by decide) dX8_lifts_16 ?_
  refine aw_rV (As := [.int (nI l), .int 2]) (S := []) (v := some (.int (o.1 8 (20 * l + 3)))) (o2 := o) (ct_X8_of (l := l) (w := 2) (by omega) (by decide)) (mm_fit_of cbX8_of (by decide) (by decide)) wq969 cvX8_of wv14 rfl rfl rfl (Nat.le_of_ble_eq_true rfl) (by decide) (by decide) rfl dX8_lifts_17 ?_
  refine aw_istore (L2 := [some (.ref (ad 14 0 0)), some (.int (nI s)), some (.int (nI l)), some (.int 8), some (.int (o.1 8 (20 * l + 3))), none]) (by decide) rfl rfl dX8_lifts_20 ?_
  refine aw_aload_n (x := ad 14 0 0) rfl dX8_lifts_22 ?_
  refine aw_iload_n (x := (nI s)) rfl dX8_lifts_23 ?_
  refine aw_iconst (v := 5) (by decide) dX8_lifts_24 ?_
  refine aw_iconst (v := 1) (by decide) dX8_lifts_25 ?_
  refine aw_rV (As := [.int (nI s), .int 5, .int 1]) (S := []) (v := none) (o2 := (wd_w o 8 (101 + 8 * s + 6) 1)) (ct_X8_give (s := s) (w := 5) (by omega) (by decide)) (mm_fit_of cbX8_give (by decide) (by decide)) wq953 cvX8_give wv14 rfl rfl rfl (Nat.le_of_ble_eq_true rfl) (by decide) (by decide) rfl dX8_lifts_26 ?_
  refine aw_aload_n (x := ad 14 0 0) rfl dX8_lifts_29 ?_
  refine aw_iload_n (x := (nI s)) rfl dX8_lifts_30 ?_
  refine aw_bipush (v := 6) (by decide) dX8_lifts_31 ?_
  refine aw_iconst (v := 0) (by decide) dX8_lifts_33 ?_
  refine aw_rV (As := [.int (nI s), .int 6, .int 0]) (S := []) (v := none) (o2 := (wd_w (wd_w o 8 (101 + 8 * s + 6) 1) 8 (101 + 8 * s + 7) 0)) (ct_X8_give (s := s) (w := 6) (by omega) (by decide)) (mm_fit_of cbX8_give (by decide) (by decide)) wq953 cvX8_give wv14 rfl rfl rfl (Nat.le_of_ble_eq_true rfl) (by decide) (by decide) rfl dX8_lifts_34 ?_
  refine aw_aload_n (x := ad 14 0 0) rfl dX8_lifts_37 ?_
  refine aw_iload_n (x := (nI s)) rfl dX8_lifts_38 ?_
  obtain ⟨o1, ho1⟩ : ∃ z, z = (wd_w (wd_w o 8 (101 + 8 * s + 6) 1) 8 (101 + 8 * s + 7) 0) := ⟨_, rfl⟩
  rw [← ho1]
  have Go1 : cg (o1.1 8) n m := by rw [ho1]; simp only [wd_w_row, row_self]; exact cg_upd (cg_upd (G) (by omega) (by omega) (fun _ _ => ⟨by omega, by omega⟩)) (by omega) (by omega) (fun _ _ => ⟨by omega, by omega⟩)
  have hho1 : o1.1 8 (101 + 8 * s + 1) = nI l := by rw [ho1]; simp only [wd_w_row, row_self]; rw [upd_ne _ _ (by omega)]; rw [upd_ne _ _ (by omega)]; exact hh
  have hpo1 : o1.1 8 (20 * l + 1) = 8 := by rw [ho1]; simp only [wd_w_row, row_self]; rw [upd_ne _ _ (by omega)]; rw [upd_ne _ _ (by omega)]; exact hp
  refine aw_rV (As := [.int (nI s)]) (S := []) (v := some (.int (mf_cut (o1.1 8) l s))) (o2 := o1) (ct_X8_cut Go1 hl (by omega) hho1) (mm_fit_of cbX8_cut (by decide) (by decide)) wq993 cvX8_cut wv14 rfl rfl rfl (Nat.le_of_ble_eq_true rfl) (by decide) (by decide) rfl dX8_lifts_39 ?_
  refine aw_if_eq (tgt := 46) (by decide) dX8_lifts_42 (fun b1 => ?_) (fun b1 => ?_)
  · skip
    refine aw_iload_n (x := 8) rfl dX8_lifts_46 ?_
    refine aw_if_ne (tgt := 62) (by decide) dX8_lifts_47 (fun _ => ?_) (fun z => absurd z (by decide))
    refine aw_iload_n (x := 8) rfl dX8_lifts_62 ?_
    refine aw_iconst (v := 3) (by decide) dX8_lifts_63 ?_
    refine aw_icmp_ne (tgt := 124) (by decide) dX8_lifts_64 (fun _ => ?_) (fun z => absurd z (by decide))
    refine aw_iload_n (x := 8) rfl dX8_lifts_124 ?_
    refine aw_bipush (v := 7) (by decide) dX8_lifts_125 ?_
    refine aw_icmp_ne (tgt := 148) (by decide) dX8_lifts_127 (fun _ => ?_) (fun z => absurd z (by decide))
    refine aw_iload_n (x := 8) rfl dX8_lifts_148 ?_
    refine aw_bipush (v := 7) (by decide) dX8_lifts_149 ?_
    refine aw_icmp_ne (tgt := 180) (by decide) dX8_lifts_151 (fun _ => ?_) (fun z => absurd z (by decide))
    refine aw_iload_n (x := 8) rfl dX8_lifts_180 ?_
    refine aw_bipush (v := 8) (by decide) dX8_lifts_181 ?_
    refine aw_icmp_ne (tgt := 192) (by decide) dX8_lifts_183 (fun z => absurd z (by decide)) (fun _ => ?_)
    refine aw_iload_n (x := (nI s)) rfl dX8_lifts_186 ?_
    refine aw_iload (x := (o.1 8 (20 * l + 3))) rfl dX8_lifts_187 ?_
    refine aw_icmp_eq (tgt := 272) (by decide) dX8_lifts_189 (fun b2 => ?_) (fun b2 => ?_)
    · skip
      exact aw_vret rfl (by decide) (by decide) dX8_lifts_272 ⟨rfl, by (subst ho1; first | with_reducible rfl | (simp [mf_lifts, hp, cs_inc, oI, mR, wd_w_row, row_self, row_row, b1, b2]; done) | (simp_all [mf_lifts, hp, cs_inc, oI, mR, wd_w_row, row_self, row_row, b1, b2]; done))⟩
    · skip
      refine aw_iload_n (x := 8) rfl dX8_lifts_192 ?_
      refine aw_iconst (v := 4) (by decide) dX8_lifts_193 ?_
      refine aw_icmp_eq (tgt := 203) (by decide) dX8_lifts_194 (fun z => absurd z (by decide)) (fun _ => ?_)
      refine aw_iload_n (x := 8) rfl dX8_lifts_197 ?_
      refine aw_bipush (v := 8) (by decide) dX8_lifts_198 ?_
      refine aw_icmp_ne (tgt := 229) (by decide) dX8_lifts_200 (fun z => absurd z (by decide)) (fun _ => ?_)
      refine aw_aload_n (x := ad 14 0 0) rfl dX8_lifts_203 ?_
      refine aw_iload (x := (o.1 8 (20 * l + 3))) rfl dX8_lifts_204 ?_
      refine aw_rV (As := [.int (o.1 8 (20 * l + 3))]) (S := []) (v := some (.int (mf_pv (o1.1 8) m (o.1 8 (20 * l + 3))))) (o2 := o1) (ct_X8_isPrivate g4 hf) (mm_fit_of cbX8_isPrivate (by decide) (by decide)) wq1017 cvX8_isPrivate wv14 rfl rfl rfl (Nat.le_of_ble_eq_true rfl) (by decide) (by decide) rfl dX8_lifts_206 ?_
      refine aw_if_ne (tgt := 225) (by decide) dX8_lifts_209 (fun b3 => ?_) (fun b3 => ?_)
      · skip
        refine aw_iconst (v := 1) (by decide) dX8_lifts_225 ?_
        refine aw_goto (tgt := 230) (by decide) dX8_lifts_226 ?_
        refine aw_istore (L2 := [some (.ref (ad 14 0 0)), some (.int (nI s)), some (.int (nI l)), some (.int 8), some (.int (o.1 8 (20 * l + 3))), some (.int 1)]) (by decide) rfl rfl dX8_lifts_230 ?_
        refine aw_aload_n (x := ad 14 0 0) rfl dX8_lifts_232 ?_
        refine aw_iload_n (x := (nI s)) rfl dX8_lifts_233 ?_
        refine aw_bipush (v := 6) (by decide) dX8_lifts_234 ?_
        refine aw_iload (x := 1) rfl dX8_lifts_236 ?_
        refine aw_if_eq (tgt := 245) (by decide) dX8_lifts_238 (fun z => absurd z (by decide)) (fun _ => ?_)
        refine aw_iconst (v := 4) (by decide) dX8_lifts_241 ?_
        refine aw_goto (tgt := 246) (by decide) dX8_lifts_242 ?_
        refine aw_rV (As := [.int (nI s), .int 6, .int 4]) (S := []) (v := none) (o2 := (wd_w o1 8 (101 + 8 * s + 7) 4)) (ct_X8_give (s := s) (w := 6) (by omega) (by decide)) (mm_fit_of cbX8_give (by decide) (by decide)) wq953 cvX8_give wv14 rfl rfl rfl (Nat.le_of_ble_eq_true rfl) (by decide) (by decide) rfl dX8_lifts_246 ?_
        refine aw_aload_n (x := ad 14 0 0) rfl dX8_lifts_249 ?_
        refine aw_getr (q := (15, 0, 0)) wv14 rfl flX8_7 rfl rfl dX8_lifts_250 ?_
        refine aw_sipush (v := 231) (by decide) dX8_lifts_253 ?_
        refine aw_iload (x := 1) rfl dX8_lifts_256 ?_
        refine aw_if_eq (tgt := 265) (by decide) dX8_lifts_258 (fun z => absurd z (by decide)) (fun _ => ?_)
        refine aw_iconst (v := 5) (by decide) dX8_lifts_261 ?_
        refine aw_goto (tgt := 266) (by decide) dX8_lifts_262 ?_
        refine aw_iaddz (z := 236) (by decide) dX8_lifts_266 ?_
        refine aw_dup2 rfl rfl dX8_lifts_267 ?_
        refine aw_ild (x := 236) (q := (8, 236)) (y := (wd_w o1 8 (101 + 8 * s + 7) 4).1 8 236) (by decide) (wv15 (by decide)) rfl rfl (Nat.le_of_ble_eq_true rfl) rfl dX8_lifts_268 ?_
        refine aw_iconst (v := 1) (by decide) dX8_lifts_269 ?_
        refine aw_iaddz (z := ((wd_w o1 8 (101 + 8 * s + 7) 4).1 8 236) + 1) rfl dX8_lifts_270 ?_
        refine aw_ist (x := 236) (q := (8, 236)) (y := ((wd_w o1 8 (101 + 8 * s + 7) 4).1 8 236) + 1) (by decide) (wv15 (by decide)) rfl (Nat.le_of_ble_eq_true rfl) rfl dX8_lifts_271 ?_
        exact aw_vret rfl (by decide) (by decide) dX8_lifts_272 ⟨rfl, by (subst ho1; first | with_reducible rfl | (simp [mf_lifts, hp, cs_inc, oI, mR, wd_w_row, row_self, row_row, b1, b2, b3]; done) | (simp_all [mf_lifts, hp, cs_inc, oI, mR, wd_w_row, row_self, row_row, b1, b2, b3]; done))⟩
      · skip
        refine aw_aload_n (x := ad 14 0 0) rfl dX8_lifts_212 ?_
        refine aw_aload_n (x := ad 14 0 0) rfl dX8_lifts_213 ?_
        refine aw_iload_n (x := (nI l)) rfl dX8_lifts_214 ?_
        refine aw_iconst (v := 3) (by decide) dX8_lifts_215 ?_
        refine aw_rV (As := [.int (nI l), .int 3]) (S := [.ref (ad 14 0 0)]) (v := some (.int (o1.1 8 (20 * l + 4)))) (o2 := o1) (ct_X8_of (l := l) (w := 3) (by omega) (by decide)) (mm_fit_of cbX8_of (by decide) (by decide)) wq969 cvX8_of wv14 rfl rfl rfl (Nat.le_of_ble_eq_true rfl) (by decide) (by decide) rfl dX8_lifts_216 ?_
        refine aw_rV (As := [.int (o1.1 8 (20 * l + 4))]) (S := []) (v := some (.int (mf_pv (o1.1 8) m (o1.1 8 (20 * l + 4))))) (o2 := o1) (ct_X8_isPrivate g4 (by rw [ho1]; simp only [wd_w_row, row_self]; rw [upd_ne _ _ (by omega), upd_ne _ _ (by omega)]; exact hq)) (mm_fit_of cbX8_isPrivate (by decide) (by decide)) wq1017 cvX8_isPrivate wv14 rfl rfl rfl (Nat.le_of_ble_eq_true rfl) (by decide) (by decide) rfl dX8_lifts_219 ?_
        refine aw_if_eq (tgt := 229) (by decide) dX8_lifts_222 (fun b4 => ?_) (fun b4 => ?_)
        · skip
          refine aw_iconst (v := 0) (by decide) dX8_lifts_229 ?_
          refine aw_istore (L2 := [some (.ref (ad 14 0 0)), some (.int (nI s)), some (.int (nI l)), some (.int 8), some (.int (o.1 8 (20 * l + 3))), some (.int 0)]) (by decide) rfl rfl dX8_lifts_230 ?_
          refine aw_aload_n (x := ad 14 0 0) rfl dX8_lifts_232 ?_
          refine aw_iload_n (x := (nI s)) rfl dX8_lifts_233 ?_
          refine aw_bipush (v := 6) (by decide) dX8_lifts_234 ?_
          refine aw_iload (x := 0) rfl dX8_lifts_236 ?_
          refine aw_if_eq (tgt := 245) (by decide) dX8_lifts_238 (fun _ => ?_) (fun z => absurd z (by decide))
          refine aw_iconst (v := 3) (by decide) dX8_lifts_245 ?_
          refine aw_rV (As := [.int (nI s), .int 6, .int 3]) (S := []) (v := none) (o2 := (wd_w o1 8 (101 + 8 * s + 7) 3)) (ct_X8_give (s := s) (w := 6) (by omega) (by decide)) (mm_fit_of cbX8_give (by decide) (by decide)) wq953 cvX8_give wv14 rfl rfl rfl (Nat.le_of_ble_eq_true rfl) (by decide) (by decide) rfl dX8_lifts_246 ?_
          refine aw_aload_n (x := ad 14 0 0) rfl dX8_lifts_249 ?_
          refine aw_getr (q := (15, 0, 0)) wv14 rfl flX8_7 rfl rfl dX8_lifts_250 ?_
          refine aw_sipush (v := 231) (by decide) dX8_lifts_253 ?_
          refine aw_iload (x := 0) rfl dX8_lifts_256 ?_
          refine aw_if_eq (tgt := 265) (by decide) dX8_lifts_258 (fun _ => ?_) (fun z => absurd z (by decide))
          refine aw_iconst (v := 4) (by decide) dX8_lifts_265 ?_
          refine aw_iaddz (z := 235) (by decide) dX8_lifts_266 ?_
          refine aw_dup2 rfl rfl dX8_lifts_267 ?_
          refine aw_ild (x := 235) (q := (8, 235)) (y := (wd_w o1 8 (101 + 8 * s + 7) 3).1 8 235) (by decide) (wv15 (by decide)) rfl rfl (Nat.le_of_ble_eq_true rfl) rfl dX8_lifts_268 ?_
          refine aw_iconst (v := 1) (by decide) dX8_lifts_269 ?_
          refine aw_iaddz (z := ((wd_w o1 8 (101 + 8 * s + 7) 3).1 8 235) + 1) rfl dX8_lifts_270 ?_
          refine aw_ist (x := 235) (q := (8, 235)) (y := ((wd_w o1 8 (101 + 8 * s + 7) 3).1 8 235) + 1) (by decide) (wv15 (by decide)) rfl (Nat.le_of_ble_eq_true rfl) rfl dX8_lifts_271 ?_
          exact aw_vret rfl (by decide) (by decide) dX8_lifts_272 ⟨rfl, by (subst ho1; first | with_reducible rfl | (simp [mf_lifts, hp, cs_inc, oI, mR, wd_w_row, row_self, row_row, b1, b2, b3, b4]; done) | (simp_all [mf_lifts, hp, cs_inc, oI, mR, wd_w_row, row_self, row_row, b1, b2, b3, b4]; done))⟩
        · skip
          refine aw_iconst (v := 1) (by decide) dX8_lifts_225 ?_
          refine aw_goto (tgt := 230) (by decide) dX8_lifts_226 ?_
          refine aw_istore (L2 := [some (.ref (ad 14 0 0)), some (.int (nI s)), some (.int (nI l)), some (.int 8), some (.int (o.1 8 (20 * l + 3))), some (.int 1)]) (by decide) rfl rfl dX8_lifts_230 ?_
          refine aw_aload_n (x := ad 14 0 0) rfl dX8_lifts_232 ?_
          refine aw_iload_n (x := (nI s)) rfl dX8_lifts_233 ?_
          refine aw_bipush (v := 6) (by decide) dX8_lifts_234 ?_
          refine aw_iload (x := 1) rfl dX8_lifts_236 ?_
          refine aw_if_eq (tgt := 245) (by decide) dX8_lifts_238 (fun z => absurd z (by decide)) (fun _ => ?_)
          refine aw_iconst (v := 4) (by decide) dX8_lifts_241 ?_
          refine aw_goto (tgt := 246) (by decide) dX8_lifts_242 ?_
          refine aw_rV (As := [.int (nI s), .int 6, .int 4]) (S := []) (v := none) (o2 := (wd_w o1 8 (101 + 8 * s + 7) 4)) (ct_X8_give (s := s) (w := 6) (by omega) (by decide)) (mm_fit_of cbX8_give (by decide) (by decide)) wq953 cvX8_give wv14 rfl rfl rfl (Nat.le_of_ble_eq_true rfl) (by decide) (by decide) rfl dX8_lifts_246 ?_
          refine aw_aload_n (x := ad 14 0 0) rfl dX8_lifts_249 ?_
          refine aw_getr (q := (15, 0, 0)) wv14 rfl flX8_7 rfl rfl dX8_lifts_250 ?_
          refine aw_sipush (v := 231) (by decide) dX8_lifts_253 ?_
          refine aw_iload (x := 1) rfl dX8_lifts_256 ?_
          refine aw_if_eq (tgt := 265) (by decide) dX8_lifts_258 (fun z => absurd z (by decide)) (fun _ => ?_)
          refine aw_iconst (v := 5) (by decide) dX8_lifts_261 ?_
          refine aw_goto (tgt := 266) (by decide) dX8_lifts_262 ?_
          refine aw_iaddz (z := 236) (by decide) dX8_lifts_266 ?_
          refine aw_dup2 rfl rfl dX8_lifts_267 ?_
          refine aw_ild (x := 236) (q := (8, 236)) (y := (wd_w o1 8 (101 + 8 * s + 7) 4).1 8 236) (by decide) (wv15 (by decide)) rfl rfl (Nat.le_of_ble_eq_true rfl) rfl dX8_lifts_268 ?_
          refine aw_iconst (v := 1) (by decide) dX8_lifts_269 ?_
          refine aw_iaddz (z := ((wd_w o1 8 (101 + 8 * s + 7) 4).1 8 236) + 1) rfl dX8_lifts_270 ?_
          refine aw_ist (x := 236) (q := (8, 236)) (y := ((wd_w o1 8 (101 + 8 * s + 7) 4).1 8 236) + 1) (by decide) (wv15 (by decide)) rfl (Nat.le_of_ble_eq_true rfl) rfl dX8_lifts_271 ?_
          exact aw_vret rfl (by decide) (by decide) dX8_lifts_272 ⟨rfl, by (subst ho1; first | with_reducible rfl | (simp [mf_lifts, hp, cs_inc, oI, mR, wd_w_row, row_self, row_row, b1, b2, b3, b4]; done) | (simp_all [mf_lifts, hp, cs_inc, oI, mR, wd_w_row, row_self, row_row, b1, b2, b3, b4]; done))⟩
  · skip
    exact aw_vret rfl (by decide) (by decide) dX8_lifts_45 ⟨rfl, by (subst ho1; first | with_reducible rfl | (simp [mf_lifts, hp, cs_inc, oI, mR, wd_w_row, row_self, row_row, b1]; done) | (simp_all [mf_lifts, hp, cs_inc, oI, mR, wd_w_row, row_self, row_row, b1]; done))⟩
