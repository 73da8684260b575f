/-! the law, from its first row to its loop -/
def g0 : mm_H := (fun _ => 0, fun _ => 0, fun _ _ => 0, fun _ _ => 0, fun _ _ => none)
theorem law_start {b L : Nat} {xs : Nat → Int32} (hL : L ≤ 2048) : MW (ML_law b L xs) 0 [some (.ref b), none, none, none, none, none, none] [] g0 0 0 (fun r _ => r = .inl (some (.int 1))) := by
  refine mw_new okc6 wq16 wq17 wq1 dL_law_0 (Nat.le_of_ble_eq_true rfl) (Nat.le_of_ble_eq_true rfl) (fun x hx => ?_)
  refine mw_dup rfl dL_law_3 ?_
  refine mw_rI (As := []) (S := [.ref x]) (mc_X7_init (h := mm_new g0 x 7 0) (mm_kself g0 x 7 0)) (mm_fit_of cbX7_init (Nat.le_of_ble_eq_true rfl) (Nat.le_of_ble_eq_true rfl)) rfl wq18 wq19 rfl rfl rfl (Nat.le_of_ble_eq_true rfl) (Nat.le_of_ble_eq_true rfl) (Nat.le_of_ble_eq_true rfl) dL_law_4 (fun h1 X1 => ?_)
  obtain ⟨F, e, y, q, z, qa, qb, X1⟩ := X1
  refine mw_astore_n (L2 := [some (.ref b), some (.ref x), none, none, none, none, none]) dL_law_7 (Nat.le_of_ble_eq_true rfl) rfl rfl ?_
  refine mw_new okc7 wq878 wq879 wq8 dL_law_8 (Nat.le_of_ble_eq_true rfl) (Nat.le_of_ble_eq_true rfl) (fun m hm => ?_)
  refine mw_dup rfl dL_law_11 ?_
  refine mw_rI (As := []) (S := [.ref m]) (mc_X8_init (h := mm_new h1 m 8 0) (mm_kself h1 m 8 0)) (mm_fit_of cbX8_init (Nat.le_of_ble_eq_true rfl) (Nat.le_of_ble_eq_true rfl)) rfl wq880 wq881 rfl rfl rfl (Nat.le_of_ble_eq_true rfl) (Nat.le_of_ble_eq_true rfl) (Nat.le_of_ble_eq_true rfl) dL_law_12 (fun h2 X2 => ?_)
  obtain ⟨r, m1, m2, m3, m4, m5, m6, m7, rr, r0, r1, ri, kk⟩ := X2
  refine mw_astore_n (L2 := [some (.ref b), some (.ref x), some (.ref m), none, none, none, none]) dL_law_15 (Nat.le_of_ble_eq_true rfl) rfl rfl ?_
  refine mw_iconst (v := 1) (by decide) dL_law_16 ?_
  refine mw_newa (at2 := .long) (ty := 1) (N := 1) (by decide) rfl wq1185 (by decide) (by decide) (by decide) dL_law_17 (Nat.le_of_ble_eq_true rfl) (Nat.le_of_ble_eq_true rfl) (fun o ho => ?_)
  refine mw_astore_n (L2 := [some (.ref b), some (.ref x), some (.ref m), some (.ref o), none, none, none]) dL_law_19 (Nat.le_of_ble_eq_true rfl) rfl rfl ?_
  refine mw_iconst (v := nI 0) (by decide) dL_law_20 ?_
  refine mw_istore (L2 := [some (.ref b), some (.ref x), some (.ref m), some (.ref o), some (.int (nI 0)), none, none]) dL_law_21 (Nat.le_of_ble_eq_true rfl) rfl rfl ?_
  have fr : ∀ c, mm_k h1 c ≠ 0 → ∀ i, i < 4 → c ≠ r i := fun c hc i hi => ne_k (h := mm_new h1 m 8 0) (by rw [kn_ne _ (ne_k hc hm)]; exact hc) (rr i hi).2.2
  have old : ∀ c, mm_k h1 c ≠ 0 → eqa h1 (mm_new h2 o 10 1) c := fun c hc => by
    have cm := ne_k hc hm
    have e1 : eqa h1 h2 c := (eqa_new cm).trans (kk c (by rw [kn_ne _ cm]; exact hc) cm)
    exact e1.trans (eqa_new (ne_k (by rw [e1.1]; exact hc) ho))
  have mo : m ≠ o := ne_k (by rw [m1]; decide) ho
  have ro : ∀ i, i < 4 → r i ≠ o := fun i hi => ne_k (by rw [(rr i hi).1]; decide) ho
  have W := world_0 (h := mm_new h2 o 10 1) (m := m) (o := o) (r := r) (X1.keep old) ⟨(kn_ne _ mo).trans m1, (pn_ne _ mo 0).trans m2, (pn_ne _ mo 1).trans m3, (pn_ne _ mo 4).trans m4, (pn_ne _ mo 5).trans m5, fun k => (in_ne _ mo k).trans ((m6 k).trans (in_q _ _ _ _ k)), fun k => (jn_ne _ mo k).trans ((m7 k).trans (jn_q _ _ _ _ k))⟩ (fun i hi => ⟨(kn_ne _ (ro i hi)).trans (rr i hi).1, (nn_ne _ (ro i hi)).trans (rr i hi).2.1⟩) (fun k => (in_ne _ (ro 0 (by decide)) k).trans (r0 k)) (fun i h1 h4 k => (in_ne _ (ro i h4) k).trans (r1 i h1 h4 k)) ri (fun i hi => ⟨fun j t i2 hj v => fr _ ((X1.2.2.2.1 j hj).k0 v) i hi, fun k hk => ⟨fr _ (X1.2.2.2.2.2.1.2.2.2.1.k0 hk) i hi, fr _ (X1.2.2.2.2.2.1.2.2.2.2.k0 hk) i hi⟩⟩) ⟨mm_kself _ _ _ _, mm_nself _ _ _ _, jn_q _ _ _ _ 0⟩
  refine mm_post (Post2 := aq (adW F x e y q z qa qb m o r) (fun r _ => r = .inl (some (.int 1)))) ?_ (fun r h q => by obtain ⟨o, _, q⟩ := q; exact q)
  refine law_loop (ad := adW F x e y q z qa qb m o r) (F := fun r _ => r = .inl (some (.int 1))) hL (fun _ => rfl) 513 0 _ _ oF 2 0 0 (by omega) (by omega) ?_ ?_ Rel_0 _ W
  · exact Nat.le_of_ble_eq_true rfl
  · exact Nat.le_of_ble_eq_true rfl
