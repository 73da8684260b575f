/-! History's constructor, SpanTests' constructor -/
theorem SI.eq {h h2 : mm_H} {s b : Nat} {f : Nat → Nat → Nat} (X : SI 5 16 h h2 s f) (hb : mm_k h b ≠ 0) (hs : b ≠ s) : eqa h h2 b := X.2.2.2 b hb hs
theorem wdk_13 {n m t i : Nat} (v : tvp n m t i) : wd_k t ≠ 13 ∧ wd_k t ≠ 0 ∧ wd_k t ≠ 14 ∧ wd_k t ≠ 1 ∧ wd_k t ≠ 2 ∧ wd_k t ≠ 4 ∧ wd_k t ≠ 7 ∧ wd_k t ≠ 8 ∧ wd_k t ≠ 10 := by
  rcases v with ⟨rfl, _⟩ | ⟨rfl, _⟩ | ⟨rfl, _⟩ | ⟨rfl, _⟩ | ⟨rfl, _⟩ | ⟨rfl, _⟩ | ⟨rfl, _⟩ <;> decide
def HI (c : Nat) (h h1 : mm_H) (a q : Nat) (F : Nat → Nat → Nat → Nat) : Prop :=
  mm_k h1 a = 2 ∧ mm_p h1 a 0 = some q ∧ mm_i h1 a 1 = 0 ∧ mm_k h1 q = 13 ∧ mm_n h1 q = 4 ∧ mm_k h q = 0 ∧
  (∀ p, p < c → STp 5 16 h1 (F p) ∧ mm_p h1 q p = some (F p 0 0)) ∧
  (∀ p t i, p < c → tvp 5 16 t i → mm_k h (F p t i) = 0) ∧
  (∀ p t i p2 t2 i2, p < c → p2 < c → tvp 5 16 t i → tvp 5 16 t2 i2 → F p t i = F p2 t2 i2 → p = p2) ∧ kp h h1 a
theorem lp_hist {h : mm_H} {a q : Nat} : ∀ (k i : Nat) (h1 : mm_H) (F : Nat → Nat → Nat → Nat), i + k = 4 → HI i h h1 a q F → MW MX2_init 19 [some (.ref a), some (.int (nI i))] [] h1 (1 + 30 * i) (4 + 292 * i) (fun r h2 => r = .inl none ∧ ∃ q F, HI 4 h h2 a q F) := by
  intro k
  induction k with
  | zero =>
    intro i h1 F hi X
    have : i = 4 := by omega
    subst this
    refine mw_iload_n (x := nI 4) rfl dX2_init_19 ?_
    refine mw_iconst (v := 4) (by decide) dX2_init_20 ?_
    refine mw_icmp_ge (tgt := 43) dX2_init_21 (by decide) (fun _ => ?_) (fun z => absurd (by decide) z)
    exact mw_vret rfl dX2_init_43 (by decide) (by decide) ⟨rfl, q, F, X⟩
  | succ k ih =>
    intro i h1 F hi X
    obtain ⟨x1, x2, x3, x4, x5, x6, x7, x8, x9, x10⟩ := X
    refine mw_iload_n (x := nI i) rfl dX2_init_19 ?_
    refine mw_iconst (v := 4) (by decide) dX2_init_20 ?_
    refine mw_icmp_ge (tgt := 43) dX2_init_21 (by decide) (fun z => absurd z (nI_ge (b := 4) (by omega) (by decide))) (fun _ => ?_)
    refine mw_aload_n (x := a) rfl dX2_init_24 ?_
    refine mw_getf (k := 0) (v := .ref q) okc1 (by decide) wq204 x1 (by show va_rf (mm_p h1 a 0) = .ref q; rw [x2]; rfl) dX2_init_25 ?_
    refine mw_iload_n (x := nI i) rfl dX2_init_28 ?_
    refine mw_new okc4 wq201 wq25 wq2 dX2_init_29 (by show 1 + 30 * i + 1 ≤ 121; omega) (by show 4 + 292 * i + 6 ≤ 1172; omega) (fun s hs => ?_)
    refine mw_dup rfl dX2_init_32 ?_
    refine mw_rI (As := []) (S := [.ref s, .int (nI i), .ref q]) (mc_X5_init (h := mm_new h1 s 5 0) (mm_kself h1 s 5 0)) (mm_fit_of cbX5_init (by decide) (by decide)) rfl wq203 wq27 rfl rfl rfl (Nat.le_of_ble_eq_true rfl) (by show 1 + 30 * i + 1 + 29 ≤ 121; omega) (by show 4 + 292 * i + 6 + 286 ≤ 1172; omega) dX2_init_33 (fun h2 X2 => ?_)
    obtain ⟨f, X2⟩ := X2
    have old : ∀ b, mm_k h1 b ≠ 0 → eqa h1 h2 b := fun b hb => by
      have bs := ne_k hb hs
      exact (eqa_new bs).trans (X2.eq (by rw [kn_ne _ bs]; exact hb) bs)
    have Eq := old q (by rw [x4]; decide)
    have qs : q ≠ s := ne_k (by rw [x4]; decide) hs
    have ks : mm_k h2 s = 5 := by rw [← X2.1]; exact X2.2.1.2.1 0 0 (by simp [tvp])
    refine mw_aast (ty := 4) (ci := 4) (r := (RX5, TX5, 6)) (Eq.1.trans x4) (by decide) (by decide) (by rw [Eq.2.1, x5]; exact nI_in (by omega) (by decide)) rfl (by decide) rfl ks dX2_init_36 ?_
    rw [nI_clamp (by omega)]
    refine mw_iinc (n := 1) (x := nI i) (v := nI (i + 1)) (L2 := [some (.ref a), some (.int (nI (i + 1)))]) dX2_init_37 rfl (nI_add i 1) (by decide) rfl rfl ?_
    refine mw_goto (tgt := 19) (by decide) dX2_init_40 ?_
    have aq : a ≠ q := fun e => by rw [e, x4] at x1; cases x1
    have f0 : ∀ t x, tvp 5 16 t x → mm_k h1 (f t x) = 0 := fun t x v => by
      by_cases ht : t = 0
      · subst ht
        have : x = 0 := by unfold tvp at v; omega
        subst this
        rw [X2.1]; exact hs
      · have h0 := X2.2.2.1 t x v ht
        have hne : f t x ≠ s := fun e => by rw [e, mm_kself] at h0; cases h0
        rw [kn_ne _ hne] at h0; exact h0
    have old2 : ∀ b, mm_k h1 b ≠ 0 → b ≠ q → eqa h1 (mm_sp h2 q i (some s)) b := fun b hb hq => (old b hb).trans (eqa_sp hq)
    have Ea := old2 a (by rw [x1]; decide) aq
    refine mm_wide (ih (i + 1) _ (fun p => if p = i then f else F p) (by omega) ⟨Ea.1.trans x1, (Ea.2.2.2.2 0).trans x2, (Ea.2.2.1 1).trans x3, by rw [mm_k_sp]; exact Eq.1.trans x4, by rw [mm_n_sp]; exact Eq.2.1.trans x5, x6, fun p hp => ?_, fun p t x hp v => ?_, fun p t x p2 t2 x2 hp hp2 v v2 e => ?_, ?_⟩) (by show 1 + 30 * i + 1 + 29 ≤ 1 + 30 * (i + 1); omega) (by show 4 + 292 * i + 6 + 286 ≤ 4 + 292 * (i + 1); omega)
    · by_cases e : p = i
      · subst e
        simp only [if_pos]
        refine ⟨X2.2.1.keep (fun t x v => eqa_sp (fun z => ?_)), by rw [mm_p_sp, if_pos ⟨rfl, rfl⟩, X2.1]⟩
        have := f0 t x v
        rw [z, x4] at this; cases this
      · simp only [if_neg e]
        obtain ⟨y1, y2⟩ := x7 p (by omega)
        refine ⟨y1.keep (fun t x v => old2 _ (y1.k0 v) (fun z => ?_)), ?_⟩
        · have := y1.2.1 t x v
          rw [z, x4] at this
          exact (wdk_13 v).1 this.symm
        · rw [mm_p_sp, if_neg (fun z => e z.2), Eq.2.2.2.2]; exact y2
    · by_cases e : p = i
      · simp only [if_pos e]; exact x10.old (by rw [x1]; decide) (f0 t x v)
      · simp only [if_neg e]; exact x8 p t x (by omega) v
    · by_cases e1 : p = i
      · by_cases e2 : p2 = i
        · rw [e1, e2]
        · simp only [if_pos e1, if_neg e2] at e
          have := f0 t x v
          rw [e] at this
          exact absurd this ((x7 p2 (by omega)).1.k0 v2)
      · by_cases e2 : p2 = i
        · simp only [if_neg e1, if_pos e2] at e
          have := f0 t2 x2 v2
          rw [← e] at this
          exact absurd this ((x7 p (by omega)).1.k0 v)
        · simp only [if_neg e1, if_neg e2] at e
          exact x9 p t x p2 t2 x2 (by omega) (by omega) v v2 e
    · have x11 : kp h h2 a := x10.step (fun b _ _ hb => old b hb)
      exact x11.sp (Or.inr x6)
theorem mc_X2_init {h : mm_H} {a : Nat} (ha : mm_k h a = 2) : mm_Met MX2_init [.ref a] h (fun r h2 => r = .inl none ∧ ∃ q F, HI 4 h h2 a q F) := by
  refine mm_met_of (L := [some (.ref a), none]) rfl rfl (by decide) (Nat.le_of_ble_eq_true rfl) rfl ?_
  refine mw_aload_n (x := a) rfl dX2_init_0 ?_
  refine mw_objinit wq200 wq22 wq23 (by decide) (Nat.le_of_ble_eq_true rfl) dX2_init_1 ?_
  refine mw_aload_n (x := a) rfl dX2_init_4 ?_
  refine mw_iconst (v := 4) (by decide) dX2_init_5 ?_
  refine mw_anew (ty := 4) (N := 4) (by decide) (by decide) rfl wq201 (by decide) (by decide) (by decide) dX2_init_6 (by decide) (by decide) (fun q hq => ?_)
  have aq : a ≠ q := ne_k (by rw [ha]; decide) hq
  have ka : mm_k (mm_new h q 13 4) a = 2 := by rw [kn_ne _ aq]; exact ha
  refine mw_putr (k := 0) (x := q) (ty := .array (.object "PartyLines$State")) okc1 (by decide) wq204 ka (Or.inr ⟨rfl, rfl, rfl⟩) (by decide +kernel) rfl rfl rfl dX2_init_9 ?_
  refine mw_aload_n (x := a) rfl dX2_init_12 ?_
  refine mw_iconst (v := 0) (by decide) dX2_init_13 ?_
  refine mw_puti (k := 1) okc1 (by decide) wq205 ka (Or.inl rfl) (by decide +kernel) rfl dX2_init_14 ?_
  refine mw_iconst (v := 0) (by decide) dX2_init_17 ?_
  refine mw_istore_n (L2 := [some (.ref a), some (.int (nI 0))]) dX2_init_18 (by decide) rfl rfl ?_
  refine lp_hist (q := q) 4 0 _ (fun _ _ _ => 0) (by decide) ⟨ka, ?_, ?_, ?_, ?_, hq, fun p hp => absurd hp (by omega), fun p _ _ hp => absurd hp (by omega), fun p _ _ _ _ _ hp => absurd hp (by omega), ((kp.rfl'.new hq).sp (Or.inl rfl)).si (Or.inl rfl)⟩
  · rw [mm_p_si, mm_p_sp, if_pos ⟨rfl, rfl⟩]
  · rw [mm_i_si, if_pos ⟨rfl, rfl⟩]
  · rw [mm_k_si, mm_k_sp]; exact mm_kself _ _ _ _
  · rw [mm_n_si, mm_n_sp]; exact mm_nself _ _ _ _
theorem eqa_multi {h : mm_H} {q N K b : Nat} (hb : ¬ (q ≤ b ∧ b ≤ q + N)) : eqa h (mm_multi h q N K) b := by
  have h1 : b ≠ q := by omega
  have h2 : ¬ (q < b ∧ b ≤ q + N) := by omega
  exact ⟨by simp only [mm_k, mm_multi, if_neg h1, if_neg h2], by simp only [mm_n, mm_multi, if_neg h1, if_neg h2], fun k => by simp only [mm_i, mm_multi, if_neg hb], fun k => by simp only [mm_j, mm_multi, if_neg hb], fun k => by simp only [mm_p, mm_multi, if_neg h1, if_neg h2]⟩
/-- a table of 13 rows at q -/
def TB (h : mm_H) (q : Nat) : Prop := mm_k h q = 14 ∧ mm_n h q = 13 ∧ ∀ i, i < 13 → mm_p h q i = some (q + 1 + i) ∧ mm_k h (q + 1 + i) = 9 ∧ mm_n h (q + 1 + i) = 13 ∧ ∀ k, mm_i h (q + 1 + i) k = 0
theorem TB_new (h : mm_H) (q : Nat) : TB (mm_multi h q 13 13) q := by
  refine ⟨by simp [mm_k, mm_multi], by simp [mm_n, mm_multi], fun i hi => ?_⟩
  have h1 : q + 1 + i ≠ q := by omega
  have h2 : q < q + 1 + i ∧ q + 1 + i ≤ q + 13 := by omega
  have h3 : q ≤ q + 1 + i ∧ q + 1 + i ≤ q + 13 := by omega
  exact ⟨by simp [mm_p, mm_multi, hi], by simp only [mm_k, mm_multi, if_neg h1, if_pos h2], by simp only [mm_n, mm_multi, if_neg h1, if_pos h2], fun k => by simp only [mm_i, mm_multi, if_pos h3]⟩
theorem TB.keep {h h2 : mm_H} {q : Nat} (T : TB h q) (e : ∀ i, i ≤ 13 → eqa h h2 (q + i)) : TB h2 q := by
  obtain ⟨t1, t2, t3⟩ := T
  have e0 := e 0 (by omega)
  rw [Nat.add_zero] at e0
  refine ⟨e0.1.trans t1, e0.2.1.trans t2, fun i hi => ?_⟩
  obtain ⟨u1, u2, u3, u4⟩ := t3 i hi
  have ei := e (1 + i) (by omega)
  rw [← Nat.add_assoc] at ei
  exact ⟨(e0.2.2.2.2 i).trans u1, ei.1.trans u2, ei.2.1.trans u3, fun k => (ei.2.2.1 k).trans (u4 k)⟩
theorem TB.k0 {h : mm_H} {q : Nat} (T : TB h q) {i : Nat} (hi : i ≤ 13) : mm_k h (q + i) ≠ 0 := by
  by_cases e : i = 0
  · subst e; rw [Nat.add_zero, T.1]; decide
  · obtain ⟨j, rfl⟩ : ∃ j, i = 1 + j := ⟨i - 1, by omega⟩
    rw [← Nat.add_assoc, (T.2.2 j (by omega)).2.1]; decide
def TI (h h1 : mm_H) (a qa qb : Nat) : Prop := mm_k h1 a = 4 ∧ mm_p h1 a 0 = some qa ∧ mm_p h1 a 1 = some qb ∧ TB h1 qa ∧ TB h1 qb ∧ (∀ i, i ≤ 13 → mm_k h (qa + i) = 0 ∧ mm_k h (qb + i) = 0) ∧ (∀ i j, i ≤ 13 → j ≤ 13 → qa + i ≠ qb + j) ∧ kp h h1 a
theorem mc_X4_init {h : mm_H} {a : Nat} (ha : mm_k h a = 4) : mm_Met MX4_init [.ref a] h (fun r h2 => r = .inl none ∧ ∃ qa qb, TI h h2 a qa qb) := by
  refine mm_met_of (L := [some (.ref a)]) rfl rfl (by decide) (Nat.le_of_ble_eq_true rfl) rfl ?_
  refine mw_aload_n (x := a) rfl dX4_init_0 ?_
  refine mw_objinit wq217 wq22 wq23 (by decide) (Nat.le_of_ble_eq_true rfl) dX4_init_1 ?_
  refine mw_aload_n (x := a) rfl dX4_init_4 ?_
  refine mw_bipush (v := 13) (by decide) dX4_init_5 ?_
  refine mw_bipush (v := 13) (by decide) dX4_init_7 ?_
  refine mw_multi (N := 13) (K := 13) wq218 wq92 (by decide) (by decide) (by decide) (by decide) (by decide) (by decide) dX4_init_9 (by decide) (by decide) (fun qa hqa => ?_)
  have a1 : ¬ (qa ≤ a ∧ a ≤ qa + 13) := fun z => by
    have := hqa (a - qa) (by omega)
    rw [show qa + (a - qa) = a by omega, ha] at this; cases this
  have E1 : eqa h (mm_multi h qa 13 13) a := eqa_multi a1
  refine mw_putr (k := 0) (x := qa) (ty := .array (.array .int)) okc3 (by decide) wq220 (E1.1.trans ha) (Or.inr ⟨rfl, rfl, rfl⟩) (by decide +kernel) rfl rfl rfl dX4_init_13 ?_
  generalize hH : mm_sp (mm_multi h qa 13 13) a 0 (some qa) = H
  have ne1 : ∀ i, i ≤ 13 → qa + i ≠ a := fun i hi e => a1 (by omega)
  have kA : mm_k H a = 4 := by rw [← hH, mm_k_sp]; exact E1.1.trans ha
  have pA : mm_p H a 0 = some qa := by rw [← hH, mm_p_sp, if_pos ⟨rfl, rfl⟩]
  have T1 : TB H qa := by rw [← hH]; exact (TB_new h qa).keep (fun i hi => eqa_sp (ne1 i hi))
  have K1 : kp h H a := by
    rw [← hH]
    refine kp.sp (kp.step kp.rfl' (fun b hb _ _ => eqa_multi (fun z => ?_))) (Or.inl rfl)
    have := hqa (b - qa) (by omega)
    rw [show qa + (b - qa) = b by omega] at this
    exact hb this
  refine mw_aload_n (x := a) rfl dX4_init_16 ?_
  refine mw_bipush (v := 13) (by decide) dX4_init_17 ?_
  refine mw_bipush (v := 13) (by decide) dX4_init_19 ?_
  refine mw_multi (N := 13) (K := 13) wq218 wq92 (by decide) (by decide) (by decide) (by decide) (by decide) (by decide) dX4_init_21 (by decide) (by decide) (fun qb hqb => ?_)
  have out : ∀ b, mm_k H b ≠ 0 → ¬ (qb ≤ b ∧ b ≤ qb + 13) := fun b hb z => by
    have := hqb (b - qb) (by omega)
    rw [show qb + (b - qb) = b by omega] at this
    exact hb this
  have E2 : eqa H (mm_multi H qb 13 13) a := eqa_multi (out a (by rw [kA]; decide))
  refine mw_putr (k := 1) (x := qb) (ty := .array (.array .int)) okc3 (by decide) wq222 (E2.1.trans kA) (Or.inr ⟨rfl, rfl, rfl⟩) (by decide +kernel) rfl rfl rfl dX4_init_25 ?_
  refine mw_vret rfl dX4_init_28 (by decide) (by decide) ⟨rfl, qa, qb, ?_, ?_, ?_, ?_, ?_, fun i hi => ⟨hqa i hi, K1.old (by rw [kA]; decide) (hqb i hi)⟩, fun i j hi hj e => ?_, ?_⟩
  · rw [mm_k_sp]; exact E2.1.trans kA
  · rw [mm_p_sp, if_neg (by simp), E2.2.2.2.2]; exact pA
  · rw [mm_p_sp, if_pos ⟨rfl, rfl⟩]
  · exact T1.keep (fun i hi => (eqa_multi (out _ (T1.k0 hi))).trans (eqa_sp (ne1 i hi)))
  · refine (TB_new H qb).keep (fun i hi => eqa_sp (fun z => ?_))
    exact out a (by rw [kA]; decide) (by omega)
  · have := hqb j hj
    rw [← e] at this
    exact T1.k0 hi this
  · exact (K1.step (fun b _ _ hb => eqa_multi (out b hb))).sp (Or.inl rfl)
