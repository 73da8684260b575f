/-! State's constructor -/
def SI (n m : Nat) (h h1 : mm_H) (a : Nat) (f : Nat → Nat → Nat) : Prop := f 0 0 = a ∧ STp n m h1 f ∧ (∀ t x, tvp n m t x → t ≠ 0 → mm_k h (f t x) = 0) ∧ kp h h1 a
theorem lp_subs {h : mm_H} {a : Nat} : ∀ (k i : Nat) (h1 : mm_H) (f : Nat → Nat → Nat), i + k = 16 → SI 5 i h h1 a f → MW MX5_init 80 [some (.ref a), some (.int (nI i)), none] [] h1 (13 + i) (142 + 9 * i) (fun r h2 => r = .inl none ∧ ∃ f, SI 5 16 h h2 a f) := by
  intro k
  induction k with
  | zero =>
    intro i h1 f hi X
    have : i = 16 := by omega
    subst this
    refine mw_iload_n (x := nI 16) rfl dX5_init_80 ?_
    refine mw_bipush (v := 16) (by decide) dX5_init_81 ?_
    refine mw_icmp_ge (tgt := 106) dX5_init_83 (by decide) (fun _ => ?_) (fun z => absurd (by decide) z)
    exact mw_vret rfl dX5_init_106 (by decide) (by decide) ⟨rfl, f, X⟩
  | succ k ih =>
    intro i h1 f hi X
    obtain ⟨x0, S, x3, x4⟩ := X
    have v0 : tvp 5 i 0 0 := by simp [tvp]
    have v6 : tvp 5 i 6 0 := by simp [tvp]
    have ka : mm_k h1 a = 5 := by rw [← x0]; exact S.2.1 0 0 v0
    have k6 : mm_k h1 (f 6 0) = 12 := S.2.1 6 0 v6
    have n6 : mm_n h1 (f 6 0) = 16 := S.2.2.1 6 0 v6 (by decide)
    have p6 : mm_p h1 a 1 = some (f 6 0) := by
      have := S.2.2.2.1 0 0 1 (6, 0, 0) v0 rfl (fun z => absurd z (by decide)) (fun z => absurd z (by decide))
      rw [x0] at this; exact this
    refine mw_iload_n (x := nI i) rfl dX5_init_80 ?_
    refine mw_bipush (v := 16) (by decide) dX5_init_81 ?_
    refine mw_icmp_ge (tgt := 106) dX5_init_83 (by decide) (fun z => absurd z (nI_ge (b := 16) (by omega) (by decide))) (fun _ => ?_)
    refine mw_aload_n (x := a) rfl dX5_init_86 ?_
    refine mw_getf (k := 1) (v := .ref (f 6 0)) okc4 (by decide) wq161 ka (by show va_rf (mm_p h1 a 1) = .ref (f 6 0); rw [p6]; rfl) dX5_init_87 ?_
    refine mw_iload_n (x := nI i) rfl dX5_init_90 ?_
    refine mw_new okc5 wq32 wq105 wq4 dX5_init_91 (by show 13 + i + 1 ≤ 29; omega) (by show 142 + 9 * i + 9 ≤ 286; omega) (fun q hq => ?_)
    refine mw_dup rfl dX5_init_94 ?_
    refine mw_iload_n (x := nI i) rfl dX5_init_95 ?_
    refine mw_rI (As := [.int (nI i)]) (S := [.ref q, .int (nI i), .ref (f 6 0)]) (mc_X6_init (h := mm_new h1 q 6 0) (x := nI i) (mm_kself h1 q 6 0)) (mm_fit_of cbX6_init (by decide) (by decide)) rfl wq106 wq107 rfl rfl rfl (Nat.le_of_ble_eq_true rfl) (by show 13 + i + 1 + 0 ≤ 29; omega) (by show 142 + 9 * i + 9 + 0 ≤ 286; omega) dX5_init_96 (fun h2 e2 => ?_)
    subst e2
    have n6q : f 6 0 ≠ q := ne_k (by rw [k6]; decide) hq
    refine mw_aast (ty := 3) (ci := 5) (r := (RX6, TX6, 9)) (by rw [mm_k_si, kn_ne _ n6q]; exact k6) (by decide) (by decide) (by rw [mm_n_si, nn_ne _ n6q, n6]; exact nI_in (by omega) (by decide)) rfl (by decide) rfl (by rw [mm_k_si]; exact mm_kself h1 q 6 0) dX5_init_99 ?_
    rw [nI_clamp (by omega)]
    refine mw_iinc (n := 1) (x := nI i) (v := nI (i + 1)) (L2 := [some (.ref a), some (.int (nI (i + 1))), none]) dX5_init_100 rfl (nI_add i 1) (by decide) rfl rfl ?_
    refine mw_goto (tgt := 80) (by decide) dX5_init_103 ?_
    have fo : ∀ t x, tvp 5 i t x → (fun t x => if t = 3 ∧ x = i then q else f t x) t x = f t x := fun t x v => if_neg (fun z => by unfold tvp at v; omega)
    have qn6 : ¬ q = f 6 0 := fun e => n6q e.symm
    refine mm_wide (ih (i + 1) _ (fun t x => if t = 3 ∧ x = i then q else f t x) (by omega) ⟨?_, ?_, ?_, ?_⟩) (by show 13 + i + 1 + 0 ≤ 13 + (i + 1); omega) (by show 142 + 9 * i + 9 + 0 ≤ 142 + 9 * (i + 1); omega)
    · rw [fo 0 0 v0]; exact x0
    · refine ST_sub (qs := q) fo (if_pos ⟨rfl, rfl⟩) S (by omega) hq (fun b hb => ?_) ?_ ?_ ?_ (fun k h1 h2 => ?_)
      · have bq : b ≠ q := ne_k hb hq
        refine ⟨by rw [mm_k_sp, mm_k_si, kn_ne _ bq], by rw [mm_n_sp, mm_n_si, nn_ne _ bq], fun k => by rw [mm_i_sp, mm_i_si, if_neg (fun z => bq z.1), in_ne _ bq], fun k hk => by rw [mm_p_sp, if_neg hk, mm_p_si, pn_ne _ bq]⟩
      · rw [mm_p_sp, if_pos ⟨rfl, rfl⟩]
      · rw [mm_k_sp, mm_k_si]; exact mm_kself h1 q 6 0
      · rw [mm_i_sp, mm_i_si, if_pos ⟨rfl, rfl⟩]
      · rw [mm_i_sp, mm_i_si, if_neg (fun z => by have := z.2; omega), in_q]
    · intro t x v ht
      by_cases e : t = 3 ∧ x = i
      · show mm_k h (if t = 3 ∧ x = i then q else f t x) = 0
        rw [if_pos e]; exact x4.old (by rw [ka]; decide) hq
      · show mm_k h (if t = 3 ∧ x = i then q else f t x) = 0
        rw [if_neg e]; exact x3 t x (by unfold tvp at v ⊢; omega) ht
    · exact ((x4.new hq).si (Or.inr (x4.old (by rw [ka]; decide) hq))).sp (Or.inr (x3 6 0 v6 (by decide)))
theorem lp_loops {h : mm_H} {a : Nat} : ∀ (k i : Nat) (h1 : mm_H) (f : Nat → Nat → Nat), i + k = 5 → SI i 0 h h1 a f → MW MX5_init 47 [some (.ref a), some (.int (nI i)), none] [] h1 (3 + 2 * i) (27 + 23 * i) (fun r h2 => r = .inl none ∧ ∃ f, SI 5 16 h h2 a f) := by
  intro k
  induction k with
  | zero =>
    intro i h1 f hi X
    have : i = 5 := by omega
    subst this
    refine mw_iload_n (x := nI 5) rfl dX5_init_47 ?_
    refine mw_iconst (v := 5) (by decide) dX5_init_48 ?_
    refine mw_icmp_ge (tgt := 78) dX5_init_49 (by decide) (fun _ => ?_) (fun z => absurd (by decide) z)
    refine mw_iconst (v := 0) (by decide) dX5_init_78 ?_
    refine mw_istore_n (L2 := [some (.ref a), some (.int (nI 0)), none]) dX5_init_79 (by decide) rfl rfl ?_
    exact lp_subs 16 0 h1 f (by decide) X
  | succ k ih =>
    intro i h1 f hi X
    obtain ⟨x0, S, x3, x4⟩ := X
    have v0 : tvp i 0 0 0 := by simp [tvp]
    have v5 : tvp i 0 5 0 := by simp [tvp]
    have ka : mm_k h1 a = 5 := by rw [← x0]; exact S.2.1 0 0 v0
    have k5 : mm_k h1 (f 5 0) = 11 := S.2.1 5 0 v5
    have n5 : mm_n h1 (f 5 0) = 5 := S.2.2.1 5 0 v5 (by decide)
    have p5 : mm_p h1 a 0 = some (f 5 0) := by
      have := S.2.2.2.1 0 0 0 (5, 0, 0) v0 rfl (fun z => absurd z (by decide)) (fun z => absurd z (by decide))
      rw [x0] at this; exact this
    refine mw_iload_n (x := nI i) rfl dX5_init_47 ?_
    refine mw_iconst (v := 5) (by decide) dX5_init_48 ?_
    refine mw_icmp_ge (tgt := 78) dX5_init_49 (by decide) (fun z => absurd z (nI_ge (b := 5) (by omega) (by decide))) (fun _ => ?_)
    refine mw_new okc2 wq30 wq34 wq3 dX5_init_52 (by show 3 + 2 * i + 1 ≤ 29; omega) (by show 27 + 23 * i + 10 ≤ 286; omega) (fun q hq => ?_)
    refine mw_dup rfl dX5_init_55 ?_
    refine mw_iload_n (x := nI i) rfl dX5_init_56 ?_
    refine mw_rI (As := [.int (nI i)]) (S := [.ref q]) (mc_X3_init (h := mm_new h1 q 3 0) (x := nI i) (mm_kself h1 q 3 0)) (mm_fit_of cbX3_init (by decide) (by decide)) rfl wq35 wq36 rfl rfl rfl (Nat.le_of_ble_eq_true rfl) (by show 3 + 2 * i + 1 + 1 ≤ 29; omega) (by show 27 + 23 * i + 10 + 13 ≤ 286; omega) dX5_init_57 (fun h2 e2 => ?_)
    obtain ⟨r, hr0, e2⟩ := e2
    have qr : q ≠ r := ne_k (by rw [mm_kself]; decide) hr0
    have hr : mm_k h1 r = 0 := by rw [← kn_ne h1 (q := q) (kd := 3) (n := 0) (Ne.symm qr)]; exact hr0
    have kq2 : mm_k h2 q = 3 := by rw [e2, mm_k_si, mm_k_sp, kn_ne _ qr]; exact mm_kself h1 q 3 0
    have pq2 : mm_p h2 q 9 = some r := by rw [e2, mm_p_si, mm_p_sp, if_pos ⟨rfl, rfl⟩]
    have kr2 : mm_k h2 r = 9 := by rw [e2, mm_k_si, mm_k_sp]; exact mm_kself _ r 9 13
    have nr2 : mm_n h2 r = 13 := by rw [e2, mm_n_si, mm_n_sp]; exact mm_nself _ r 9 13
    have i02 : mm_i h2 q 0 = nI i := by rw [e2, mm_i_si, if_pos ⟨rfl, rfl⟩]
    have old2 : ∀ b, mm_k h1 b ≠ 0 → eqa h1 h2 b := fun b hb => by
      have bq := ne_k hb hq
      have br := ne_k hb hr
      rw [e2]
      exact (eqa_new bq).trans ((eqa_new br).trans ((eqa_sp bq).trans (eqa_si bq)))
    refine mw_astore_n (L2 := [some (.ref a), some (.int (nI i)), some (.ref q)]) dX5_init_60 (by decide) rfl rfl ?_
    refine mw_aload_n (x := q) rfl dX5_init_61 ?_
    refine mw_rV (As := []) (S := []) (mc_X3_begin kq2 pq2 kr2 nr2) (mm_fit_of cbX3_begin (by decide) (by decide)) wq93 cvX3_begin kq2 rfl rfl (Nat.le_of_ble_eq_true rfl) (by show 3 + 2 * i + 1 + 1 + 0 ≤ 29; omega) (by show 27 + 23 * i + 10 + 13 + 0 ≤ 286; omega) dX5_init_62 (fun h3 G => ?_)
    have old3 : ∀ b, mm_k h1 b ≠ 0 → eqa h1 h3 b := fun b hb => (old2 b hb).trans (G.eqa (ne_k hb hq) (ne_k hb hr))
    have ka3 : mm_k h3 a = 5 := by rw [(old3 a (by rw [ka]; decide)).1]; exact ka
    have E5 := old3 (f 5 0) (by rw [k5]; decide)
    refine mw_aload_n (x := a) rfl dX5_init_65 ?_
    refine mw_getf (k := 0) (v := .ref (f 5 0)) okc4 (by decide) wq160 ka3 (by show va_rf (mm_p h3 a 0) = .ref (f 5 0); rw [(old3 a (by rw [ka]; decide)).2.2.2.2, p5]; rfl) dX5_init_66 ?_
    refine mw_iload_n (x := nI i) rfl dX5_init_69 ?_
    refine mw_aload_n (x := q) rfl dX5_init_70 ?_
    refine mw_aast (ty := 2) (ci := 2) (r := (RX3, TX3, 10)) (E5.1.trans k5) (by decide) (by decide) (by rw [E5.2.1, n5]; exact nI_in (by omega) (by decide)) rfl (by decide) rfl ((G.1 q).trans kq2) dX5_init_71 ?_
    rw [nI_clamp (by omega)]
    refine mw_iinc (n := 1) (x := nI i) (v := nI (i + 1)) (L2 := [some (.ref a), some (.int (nI (i + 1))), some (.ref q)]) dX5_init_72 rfl (nI_add i 1) (by decide) rfl rfl ?_
    refine mw_goto (tgt := 47) (by decide) dX5_init_75 ?_
    have fo : ∀ t x, tvp i 0 t x → (fun t x => if t = 1 ∧ x = i then q else if t = 2 ∧ x = i then r else f t x) t x = f t x := fun t x v => by
      show (if t = 1 ∧ x = i then q else if t = 2 ∧ x = i then r else f t x) = f t x
      rw [if_neg (fun z => by unfold tvp at v; omega), if_neg (fun z => by unfold tvp at v; omega)]
    have hq0 : mm_k h q = 0 := x4.old (by rw [ka]; decide) hq
    have hr00 : mm_k h r = 0 := x4.old (by rw [ka]; decide) hr
    obtain ⟨g1, g2, g3, g4, g5, ⟨y0, y1, y2, y3, y4, y5, y6, y7, y8⟩, g7⟩ := id G
    refine mm_wide (mm_locs (ih (i + 1) _ (fun t x => if t = 1 ∧ x = i then q else if t = 2 ∧ x = i then r else f t x) (by omega) ⟨?_, ?_, ?_, ?_⟩) (lsub_keep (lsub_keep (lsub_none lsub_nil)))) (by show 3 + 2 * i + 1 + 1 + 0 ≤ 3 + 2 * (i + 1); omega) (by show 27 + 23 * i + 10 + 13 + 0 ≤ 27 + 23 * (i + 1); omega)
    · rw [fo 0 0 v0]; exact x0
    · have q5 : q ≠ f 5 0 := Ne.symm (ne_k (by rw [k5]; decide) hq)
      refine ST_loop (qa := q) (qr := r) fo (if_pos ⟨rfl, rfl⟩) (by show (if 2 = 1 ∧ i = i then q else if 2 = 2 ∧ i = i then r else f 2 i) = r; rw [if_neg (by omega), if_pos ⟨rfl, rfl⟩]) S (by omega) hq hr qr (fun b hb => ?_) ?_ ?_ ?_ ?_ (fun k h1 h2 => ?_) ?_ ?_ (fun k h1 h2 => ?_)
      · have E := old3 b hb
        refine ⟨by rw [mm_k_sp]; exact E.1, by rw [mm_n_sp]; exact E.2.1, fun k => by rw [mm_i_sp]; exact E.2.2.1 k, fun k hk => by rw [mm_p_sp, if_neg hk]; exact E.2.2.2.2 k⟩
      · rw [mm_p_sp, if_pos ⟨rfl, rfl⟩]
      · rw [mm_k_sp, g1]; exact kq2
      · rw [mm_p_sp, if_neg (fun z => q5 z.1), g4]; exact pq2
      · rw [mm_i_sp, y0]; exact i02
      · rw [mm_i_sp, B0_l (by omega) h1 (by omega)]
        have hk : k = 1 ∨ k = 2 ∨ k = 3 ∨ k = 4 ∨ k = 5 ∨ k = 6 ∨ k = 7 ∨ k = 8 := by omega
        rcases hk with rfl | rfl | rfl | rfl | rfl | rfl | rfl | rfl
        · rw [y1]; rfl
        · rw [y2]; rfl
        · rw [y3]; rfl
        · rw [y4]; rfl
        · rw [y5]; rfl
        · rw [y6]; rfl
        · rw [y7]; rfl
        · rw [y8]; rfl
      · rw [mm_k_sp, g1]; exact kr2
      · rw [mm_n_sp, g2]; exact nr2
      · rw [mm_i_sp]; exact g7 k h1 (by omega)
    · intro t x v ht
      show mm_k h (if t = 1 ∧ x = i then q else if t = 2 ∧ x = i then r else f t x) = 0
      by_cases e1 : t = 1 ∧ x = i
      · rw [if_pos e1]; exact hq0
      · rw [if_neg e1]
        by_cases e3 : t = 2 ∧ x = i
        · rw [if_pos e3]; exact hr00
        · rw [if_neg e3]; exact x3 t x (by unfold tvp at v ⊢; omega) ht
    · have x5 : kp h h3 a := x4.step (fun b _ _ hb => old3 b hb)
      exact x5.sp (Or.inr (x3 5 0 v5 (by decide)))
theorem mc_X5_init {h : mm_H} {a : Nat} (ha : mm_k h a = 5) : mm_Met MX5_init [.ref a] h (fun r h2 => r = .inl none ∧ ∃ f, SI 5 16 h h2 a f) := by
  refine mm_met_of (L := [some (.ref a), none, none]) rfl rfl (by decide) (Nat.le_of_ble_eq_true rfl) rfl ?_
  refine mw_aload_n (x := a) rfl dX5_init_0 ?_
  refine mw_objinit wq29 wq22 wq23 (by decide) (Nat.le_of_ble_eq_true rfl) dX5_init_1 ?_
  refine mw_aload_n (x := a) rfl dX5_init_4 ?_
  refine mw_iconst (v := 5) (by decide) dX5_init_5 ?_
  refine mw_anew (ty := 2) (N := 5) (by decide) (by decide) rfl wq30 (by decide) (by decide) (by decide) dX5_init_6 (by decide) (by decide) (fun q5 hq5 => ?_)
  have a5 : a ≠ q5 := ne_k (by rw [ha]; decide) hq5
  have ka5 : mm_k (mm_new h q5 11 5) a = 5 := by rw [kn_ne _ a5]; exact ha
  refine mw_putr (k := 0) (x := q5) (ty := .array (.object "PartyLines$Loop")) okc4 (by decide) wq160 ka5 (Or.inr ⟨rfl, rfl, rfl⟩) (by decide +kernel) rfl rfl rfl dX5_init_9 ?_
  refine mw_aload_n (x := a) rfl dX5_init_12 ?_
  refine mw_bipush (v := 16) (by decide) dX5_init_13 ?_
  refine mw_anew (ty := 3) (N := 16) (by decide) (by decide) rfl wq32 (by decide) (by decide) (by decide) dX5_init_15 (by decide) (by decide) (fun q6 hq6 => ?_)
  rw [mm_k_sp] at hq6
  have a6 : a ≠ q6 := ne_k (by rw [ka5]; decide) hq6
  have q56 : q5 ≠ q6 := ne_k (by rw [mm_kself]; decide) hq6
  refine mw_putr (k := 1) (x := q6) (ty := .array (.object "PartyLines$Subscriber")) okc4 (by decide) wq161 (by rw [kn_ne _ a6, mm_k_sp]; exact ka5) (Or.inr ⟨rfl, rfl, rfl⟩) (by decide +kernel) rfl rfl rfl dX5_init_18 ?_
  refine mw_aload_n (x := a) rfl dX5_init_21 ?_
  refine mw_bipush (v := 6) (by decide) dX5_init_22 ?_
  refine mw_newa (at2 := .int) (ty := 0) (N := 6) (by decide) rfl wq92 (by decide) (by decide) (by decide) dX5_init_24 (by decide) (by decide) (fun q4 hq4 => ?_)
  have a4 : a ≠ q4 := ne_k (by rw [mm_k_sp, kn_ne _ a6, mm_k_sp, ka5]; decide) hq4
  have q54 : q5 ≠ q4 := ne_k (by rw [mm_k_sp, kn_ne _ q56, mm_k_sp, mm_kself]; decide) hq4
  have q64 : q6 ≠ q4 := ne_k (by rw [mm_k_sp, mm_kself]; decide) hq4
  have b4 : mm_k h q4 = 0 := by
    rw [mm_k_sp, kn_ne _ (Ne.symm q64), mm_k_sp, kn_ne _ (Ne.symm q54)] at hq4; exact hq4
  have b6 : mm_k h q6 = 0 := by rw [kn_ne _ (Ne.symm q56)] at hq6; exact hq6
  refine mw_putr (k := 2) (x := q4) (ty := .array .int) okc4 (by decide) wq162 (by rw [kn_ne _ a4, mm_k_sp, kn_ne _ a6, mm_k_sp]; exact ka5) (Or.inr ⟨rfl, rfl, rfl⟩) (by decide +kernel) rfl rfl rfl dX5_init_26 ?_
  generalize hH : mm_sp (mm_new (mm_sp (mm_new (mm_sp (mm_new h q5 (2 + 9) 5) a 0 (some q5)) q6 (3 + 9) 16) a 1 (some q6)) q4 (0 + 9) 6) a 2 (some q4) = H
  have kA : mm_k H a = 5 := by rw [← hH, mm_k_sp, kn_ne _ a4, mm_k_sp, kn_ne _ a6, mm_k_sp]; exact ka5
  have k5 : mm_k H q5 = 11 := by rw [← hH, mm_k_sp, kn_ne _ q54, mm_k_sp, kn_ne _ q56, mm_k_sp]; exact mm_kself _ _ _ _
  have n5 : mm_n H q5 = 5 := by rw [← hH, mm_n_sp, nn_ne _ q54, mm_n_sp, nn_ne _ q56, mm_n_sp]; exact mm_nself _ _ _ _
  have k6 : mm_k H q6 = 12 := by rw [← hH, mm_k_sp, kn_ne _ q64, mm_k_sp]; exact mm_kself _ _ _ _
  have n6 : mm_n H q6 = 16 := by rw [← hH, mm_n_sp, nn_ne _ q64, mm_n_sp]; exact mm_nself _ _ _ _
  have k4 : mm_k H q4 = 9 := by rw [← hH, mm_k_sp]; exact mm_kself _ _ _ _
  have n4 : mm_n H q4 = 6 := by rw [← hH, mm_n_sp]; exact mm_nself _ _ _ _
  have i4 : ∀ k, mm_i H q4 k = 0 := fun k => by rw [← hH, mm_i_sp, in_q]
  have p0 : mm_p H a 0 = some q5 := by rw [← hH, mm_p_sp, if_neg (by simp), pn_ne _ a4, mm_p_sp, if_neg (by simp), pn_ne _ a6, mm_p_sp, if_pos ⟨rfl, rfl⟩]
  have p1 : mm_p H a 1 = some q6 := by rw [← hH, mm_p_sp, if_neg (by simp), pn_ne _ a4, mm_p_sp, if_pos ⟨rfl, rfl⟩]
  have p2 : mm_p H a 2 = some q4 := by rw [← hH, mm_p_sp, if_pos ⟨rfl, rfl⟩]
  have K : kp h H a := by
    rw [← hH]
    exact (((((kp.rfl'.new hq5).sp (Or.inl rfl)).new (by rw [mm_k_sp]; exact hq6)).sp (Or.inl rfl)).new hq4).sp (Or.inl rfl)
  refine mw_aload_n (x := a) rfl dX5_init_29 ?_
  refine mw_iconst (v := 2) (by decide) dX5_init_30 ?_
  refine mw_puti (k := 3) okc4 (by decide) wq165 kA (Or.inl rfl) (by decide +kernel) rfl dX5_init_31 ?_
  refine mw_aload_n (x := a) rfl dX5_init_34 ?_
  refine mw_iconst (v := 0) (by decide) dX5_init_35 ?_
  refine mw_puti (k := 4) okc4 (by decide) wq167 kA (Or.inl rfl) (by decide +kernel) rfl dX5_init_36 ?_
  refine mw_aload_n (x := a) rfl dX5_init_39 ?_
  refine mw_bipush (v := 60) (by decide) dX5_init_40 ?_
  refine mw_puti (k := 5) okc4 (by decide) wq169 kA (Or.inl rfl) (by decide +kernel) rfl dX5_init_42 ?_
  refine mw_iconst (v := 0) (by decide) dX5_init_45 ?_
  refine mw_istore_n (L2 := [some (.ref a), some (.int (nI 0)), none]) dX5_init_46 (by decide) rfl rfl ?_
  have ne4a : ¬ q4 = a := fun e => a4 e.symm
  refine lp_loops 5 0 _ (fun t _ => if t = 0 then a else if t = 4 then q4 else if t = 5 then q5 else q6) (by decide) ⟨rfl, ⟨fun t i t2 i2 v v2 e => ?_, fun t i v => ?_, fun t i v q => ?_, fun t i k q v e _ _ => ?_, fun t i k q v e => ?_, fun i hi => absurd hi (by omega), fun i hi => absurd hi (by omega)⟩, fun t x v ht => ?_, ((K.si (Or.inl rfl)).si (Or.inl rfl)).si (Or.inl rfl)⟩
  · have vv : (t = 0 ∨ t = 4 ∨ t = 5 ∨ t = 6) ∧ i = 0 := by unfold tvp at v; omega
    have vv2 : (t2 = 0 ∨ t2 = 4 ∨ t2 = 5 ∨ t2 = 6) ∧ i2 = 0 := by unfold tvp at v2; omega
    obtain ⟨w, rfl⟩ := vv
    obtain ⟨w2, rfl⟩ := vv2
    refine ⟨?_, rfl⟩
    rcases w with rfl | rfl | rfl | rfl <;> rcases w2 with rfl | rfl | rfl | rfl <;> first | rfl | (exfalso; simp at e; first | exact a4 e | exact a4 e.symm | exact a5 e | exact a5 e.symm | exact a6 e | exact a6 e.symm | exact q54 e | exact q54 e.symm | exact q56 e | exact q56 e.symm | exact q64 e | exact q64 e.symm)
  · have vv : (t = 0 ∨ t = 4 ∨ t = 5 ∨ t = 6) ∧ i = 0 := by unfold tvp at v; omega
    obtain ⟨w, rfl⟩ := vv
    rcases w with rfl | rfl | rfl | rfl
    · exact kA
    · exact k4
    · exact k5
    · exact k6
  · have vv : (t = 0 ∨ t = 4 ∨ t = 5 ∨ t = 6) ∧ i = 0 := by unfold tvp at v; omega
    obtain ⟨w, rfl⟩ := vv
    rcases w with rfl | rfl | rfl | rfl
    · exact absurd q (by decide)
    · exact n4
    · exact n5
    · exact n6
  · rename_i c5 c6
    have vv : (t = 0 ∨ t = 4 ∨ t = 5 ∨ t = 6) ∧ i = 0 := by unfold tvp at v; omega
    obtain ⟨w, rfl⟩ := vv
    rcases w with rfl | rfl | rfl | rfl
    · unfold wd_r at e
      rw [if_pos rfl] at e
      by_cases e0 : k = 0
      · rw [if_pos e0] at e; obtain rfl := Option.some.inj e; subst e0; exact p0
      · rw [if_neg e0] at e
        by_cases e1 : k = 1
        · rw [if_pos e1] at e; obtain rfl := Option.some.inj e; subst e1; exact p1
        · rw [if_neg e1] at e
          by_cases e2 : k = 2
          · rw [if_pos e2] at e; obtain rfl := Option.some.inj e; subst e2; exact p2
          · rw [if_neg e2] at e; cases e
    · simp [wd_r] at e
    · exact absurd (c5 rfl) (by omega)
    · exact absurd (c6 rfl) (by omega)
  · have vv : (t = 0 ∨ t = 4 ∨ t = 5 ∨ t = 6) ∧ i = 0 := by unfold tvp at v; omega
    obtain ⟨w, rfl⟩ := vv
    rcases w with rfl | rfl | rfl | rfl
    · unfold wd_i at e
      rw [if_pos rfl] at e
      show mm_i (mm_si (mm_si (mm_si H a 3 2) a 4 0) a 5 60) a k = B0 q.2
      by_cases e3 : k = 3
      · rw [if_pos e3] at e; obtain rfl := Option.some.inj e; subst e3
        rw [mm_i_si, if_neg (by simp), mm_i_si, if_neg (by simp), mm_i_si, if_pos ⟨rfl, rfl⟩]; rfl
      · rw [if_neg e3] at e
        by_cases e4 : k = 4
        · rw [if_pos e4] at e; obtain rfl := Option.some.inj e; subst e4
          rw [mm_i_si, if_neg (by simp), mm_i_si, if_pos ⟨rfl, rfl⟩]; rfl
        · rw [if_neg e4] at e
          by_cases e5 : k = 5
          · rw [if_pos e5] at e; obtain rfl := Option.some.inj e; subst e5
            rw [mm_i_si, if_pos ⟨rfl, rfl⟩]; rfl
          · rw [if_neg e5] at e; cases e
    · show mm_i (mm_si (mm_si (mm_si H a 3 2) a 4 0) a 5 60) q4 k = B0 q.2
      rw [mm_i_si, if_neg (fun z => ne4a z.1), mm_i_si, if_neg (fun z => ne4a z.1), mm_i_si, if_neg (fun z => ne4a z.1), i4]
      simp [wd_i] at e
      obtain ⟨hk, rfl⟩ := e
      exact (B0_s (by show 101 ≤ 231 + k; omega) (by show 231 + k ≠ 230; omega)).symm
    · simp [wd_i] at e
    · simp [wd_i] at e
  · have vv : (t = 4 ∨ t = 5 ∨ t = 6) ∧ x = 0 := by unfold tvp at v; omega
    obtain ⟨w, rfl⟩ := vv
    rcases w with rfl | rfl | rfl
    · exact b4
    · exact hq5
    · exact b6
