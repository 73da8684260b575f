/-! the reference: ticks, from what holds between turns -/
def phs (x : Int32) : Prop := x = 0 ∨ x = 1 ∨ x = 2 ∨ x = 3 ∨ x = 4 ∨ x = 5 ∨ x = 6 ∨ x = 7 ∨ x = 8
/-- what the reference's turns need of its row -/
def mi (N : Nat → Int32) (n m : Nat) : Prop := cg N n m ∧ ∀ l, l < n → phs (N (20 * l + 1)) ∧ ok n (N (20 * l + 5)) ∧ ok m (N (20 * l + 3)) ∧ ok m (N (20 * l + 4)) ∧ (N (20 * l + 1) = 3 → N (20 * l + 5) ≠ -1 ∧ N (20 * l + 3) ≠ -1) ∧ (N (20 * l + 1) = 7 → N (20 * l + 3) ≠ -1 ∧ N (20 * l + 4) ≠ -1) ∧ (N (20 * l + 1) = 4 → N (20 * l + 5) ≠ -1 ∧ N (20 * l + 3) ≠ -1) ∧ (N (20 * l + 1) = 8 → N (20 * l + 5) = -1)
def nt (x : Int32) : Nat := x.toNatClampNeg
theorem nt_of {x : Int32} {k : Nat} (hk : k ≤ 16) (h : ok k x) (h2 : x ≠ -1) : nt x < k ∧ x = nI (nt x) := by
  rcases h with h | ⟨e, h, rfl⟩
  · exact absurd h h2
  · unfold nt
    rw [nI_clamp (by omega)]
    exact ⟨h, rfl⟩
def mf_go (N : Nat → Int32) (m l : Nat) : Nat → Int32 := mf_goes N m l (nt (N (20 * l + 3))) (nt (N (20 * l + 4))) (nt (N (20 * l + 5)))
theorem ct_X8_go {ad : Nat → Nat → Nat → Nat} {o : wd_S} {n m l : Nat} (I : mi (o.1 8) n m) (hl : l < n) : CT ad MX8_goesOn [.ref (ad 14 0 0), .int (nI l)] o (RT none (wd_row o 8 (mf_go (o.1 8) m l))) := by
  obtain ⟨G, J⟩ := I
  have g2 := G.2.1
  have g4 := G.2.2.2.1
  obtain ⟨h1, h2, h3, h4, h5, h6, h7, h8⟩ := J l hl
  have hl5 : l < 5 := by omega
  rcases h1 with p | p | p | p | p | p | p | p | p
  · exact ct_X8_goes_0 G hl5 p
  · exact ct_X8_goes_1 G hl5 p
  · exact ct_X8_goes_2 G hl5 p
  · obtain ⟨a1, a2⟩ := nt_of (by omega) h2 (h5 p).1
    obtain ⟨b1, b2⟩ := nt_of (by omega) h3 (h5 p).2
    exact ct_X8_goes_3 G hl5 p b1 b2 (by omega) a2
  · obtain ⟨a1, a2⟩ := nt_of (by omega) h2 (h7 p).1
    obtain ⟨b1, b2⟩ := nt_of (by omega) h3 (h7 p).2
    exact ct_X8_goes_4 G hl5 p b1 b2 (by omega) a2
  · exact ct_X8_goes_5 G hl5 p
  · exact ct_X8_goes_6 G hl5 p
  · obtain ⟨a1, a2⟩ := nt_of (by omega) h3 (h6 p).1
    obtain ⟨b1, b2⟩ := nt_of (by omega) h4 (h6 p).2
    exact ct_X8_goes_7 G hl5 p a1 a2 b1 b2
  · exact ct_X8_goes_8 G hl5 p (h8 p)
def mf_tims : Nat → Nat → (Nat → Int32) → Nat → Int32
  | 0, _, N => N
  | k + 1, i, N => mf_tims k (i + 1) (upd N (20 * i + 2) (N (20 * i + 2) + 1))
def mf_turns (m : Nat) : Nat → Nat → (Nat → Int32) → Nat → Int32
  | 0, _, N => N
  | k + 1, i, N => mf_turns m k (i + 1) (mf_go N m i)
def mf_tick (N : Nat → Int32) (n m : Nat) : Nat → Int32 := mf_turns m n 0 (mf_tims n 0 N)
def mf_ticks (n m : Nat) : Nat → (Nat → Int32) → Nat → Int32
  | 0, N => N
  | k + 1, N => mf_ticks n m k (mf_tick N n m)
theorem tims_Q {Q : (Nat → Int32) → Prop} {n m : Nat} (hS : ∀ N l, l < n → Q N → Q (mf_go N m l)) : ∀ (k i : Nat) (N : Nat → Int32), i + k = n → Q N → Q (mf_turns m k i N)
  | 0, _, _, _, h => h
  | k + 1, i, N, e, h => tims_Q hS k (i + 1) _ (by omega) (hS N i (by omega) h)
theorem lp_tims {ad : Nat → Nat → Nat → Nat} {F : (Option Value ⊕ String) → wd_S → Prop} {n m t j : Nat} : ∀ (k i : Nat) (o : wd_S) , i + k = n → (cg (o.1 8) n m) → (AW ad MX8_tick 64 [some (.ref (ad 14 0 0)), some (.int (nI t)), some (.int (nI j)), none] [] (wd_row o 8 (mf_tims k i (o.1 8))) 0 0 F) → AW ad MX8_tick 34 [some (.ref (ad 14 0 0)), some (.int (nI t)), some (.int (nI j)), some (.int (nI i))] [] o 0 0 F := by
  intro k
  induction k with
  | zero =>
    intro i o hk G K
    have g2 := G.2.1
    refine aw_iload_n (x := (nI i)) rfl dX8_tick_34 ?_
    refine aw_aload_n (x := ad 14 0 0) rfl dX8_tick_35 ?_
    refine aw_getr (q := (15, 0, 0)) wv14 rfl flX8_7 rfl rfl dX8_tick_36 ?_
    refine aw_iconst (v := 0) (by decide) dX8_tick_39 ?_
    refine aw_ild (x := 0) (q := (8, 0)) (y := nI n) (by decide) (wv15 (by decide)) rfl G.1 (Nat.le_of_ble_eq_true rfl) rfl dX8_tick_40 ?_
    refine aw_icmp_ge (tgt := 64) (by decide) dX8_tick_41 (fun _ => ?_) (fun z => absurd (nI_le (by omega) (by omega)) z)
    exact AW.locs (by simpa only [mf_tims, row_id] using K) (lsub_keep (lsub_keep (lsub_keep (lsub_none lsub_nil))))
  | succ k ih =>
    intro i o hk G K
    have g2 := G.2.1
    refine aw_iload_n (x := (nI i)) rfl dX8_tick_34 ?_
    refine aw_aload_n (x := ad 14 0 0) rfl dX8_tick_35 ?_
    refine aw_getr (q := (15, 0, 0)) wv14 rfl flX8_7 rfl rfl dX8_tick_36 ?_
    refine aw_iconst (v := 0) (by decide) dX8_tick_39 ?_
    refine aw_ild (x := 0) (q := (8, 0)) (y := nI n) (by decide) (wv15 (by decide)) rfl G.1 (Nat.le_of_ble_eq_true rfl) rfl dX8_tick_40 ?_
    refine aw_icmp_ge (tgt := 64) (by decide) dX8_tick_41 (fun z => absurd z (nI_ge (by omega) (by omega))) (fun _ => ?_)
    refine aw_aload_n (x := ad 14 0 0) rfl dX8_tick_44 ?_
    refine aw_iload_n (x := (nI i)) rfl dX8_tick_45 ?_
    refine aw_iconst (v := 1) (by decide) dX8_tick_46 ?_
    refine aw_aload_n (x := ad 14 0 0) rfl dX8_tick_47 ?_
    refine aw_iload_n (x := (nI i)) rfl dX8_tick_48 ?_
    refine aw_iconst (v := 1) (by decide) dX8_tick_49 ?_
    refine aw_rV (As := [.int (nI i), .int 1]) (S := [.int 1, .int (nI i), .ref (ad 14 0 0)]) (v := some (.int (o.1 8 (20 * i + 2)))) (o2 := o) (ct_X8_of (l := i) (w := 1) (by omega) (by decide)) (mm_fit_of cbX8_of (by decide) (by decide)) wq969 cvX8_of wv14 rfl rfl rfl (Nat.le_of_ble_eq_true rfl) (by decide) (by decide) rfl dX8_tick_50 ?_
    refine aw_iconst (v := 1) (by decide) dX8_tick_53 ?_
    refine aw_iaddz (z := (o.1 8 (20 * i + 2)) + 1) rfl dX8_tick_54 ?_
    refine aw_rV (As := [.int (nI i), .int 1, .int ((o.1 8 (20 * i + 2)) + 1)]) (S := []) (v := none) (o2 := (wd_w o 8 (20 * i + 2) ((o.1 8 (20 * i + 2)) + 1))) (ct_X8_put (l := i) (w := 1) (by omega) (by decide)) (mm_fit_of cbX8_put (by decide) (by decide)) wq888 cvX8_put wv14 rfl rfl rfl (Nat.le_of_ble_eq_true rfl) (by decide) (by decide) rfl dX8_tick_55 ?_
    refine aw_iinc (n := 1) (x := (nI i)) (v := nI (i + 1)) (L2 := [some (.ref (ad 14 0 0)), some (.int (nI t)), some (.int (nI j)), some (.int (nI (i + 1)))]) rfl (nI_1 i) (by decide) rfl rfl dX8_tick_58 ?_
    refine aw_goto (tgt := 34) (by decide) dX8_tick_61 ?_
    exact AW.locs (ih (i + 1) (wd_w o 8 (20 * i + 2) ((o.1 8 (20 * i + 2)) + 1))  (by omega) (by rw [wd_w_row, row_self]; exact cg_upd G (by omega) (by omega) (fun _ _ => ⟨by omega, by omega⟩)) (by simpa only [mf_tims, wd_w_row, row_self, row_row] using K)) (lsub_keep (lsub_keep (lsub_keep (lsub_keep lsub_nil))))
theorem lp_turns {ad : Nat → Nat → Nat → Nat} {F : (Option Value ⊕ String) → wd_S → Prop} {n m t j : Nat} {Q : (Nat → Int32) → Prop} (hQ : ∀ N, Q N → mi N n m) (hS : ∀ N l, l < n → Q N → Q (mf_go N m l)) : ∀ (k i : Nat) (o : wd_S) , i + k = n → (Q (o.1 8)) → (AW ad MX8_tick 87 [some (.ref (ad 14 0 0)), some (.int (nI t)), some (.int (nI j)), none] [] (wd_row o 8 (mf_turns m k i (o.1 8))) 0 0 F) → AW ad MX8_tick 66 [some (.ref (ad 14 0 0)), some (.int (nI t)), some (.int (nI j)), some (.int (nI i))] [] o 0 0 F := by
  intro k
  induction k with
  | zero =>
    intro i o hk q0 K
    have g2 := (hQ _ q0).1.2.1
    refine aw_iload_n (x := (nI i)) rfl dX8_tick_66 ?_
    refine aw_aload_n (x := ad 14 0 0) rfl dX8_tick_67 ?_
    refine aw_getr (q := (15, 0, 0)) wv14 rfl flX8_7 rfl rfl dX8_tick_68 ?_
    refine aw_iconst (v := 0) (by decide) dX8_tick_71 ?_
    refine aw_ild (x := 0) (q := (8, 0)) (y := nI n) (by decide) (wv15 (by decide)) rfl (hQ _ q0).1.1 (Nat.le_of_ble_eq_true rfl) rfl dX8_tick_72 ?_
    refine aw_icmp_ge (tgt := 87) (by decide) dX8_tick_73 (fun _ => ?_) (fun z => absurd (nI_le (by omega) (by omega)) z)
    exact AW.locs (by simpa only [mf_turns, row_id] using K) (lsub_keep (lsub_keep (lsub_keep (lsub_none lsub_nil))))
  | succ k ih =>
    intro i o hk q0 K
    have g2 := (hQ _ q0).1.2.1
    refine aw_iload_n (x := (nI i)) rfl dX8_tick_66 ?_
    refine aw_aload_n (x := ad 14 0 0) rfl dX8_tick_67 ?_
    refine aw_getr (q := (15, 0, 0)) wv14 rfl flX8_7 rfl rfl dX8_tick_68 ?_
    refine aw_iconst (v := 0) (by decide) dX8_tick_71 ?_
    refine aw_ild (x := 0) (q := (8, 0)) (y := nI n) (by decide) (wv15 (by decide)) rfl (hQ _ q0).1.1 (Nat.le_of_ble_eq_true rfl) rfl dX8_tick_72 ?_
    refine aw_icmp_ge (tgt := 87) (by decide) dX8_tick_73 (fun z => absurd z (nI_ge (by omega) (by omega))) (fun _ => ?_)
    refine aw_aload_n (x := ad 14 0 0) rfl dX8_tick_76 ?_
    refine aw_iload_n (x := (nI i)) rfl dX8_tick_77 ?_
    refine aw_rV (As := [.int (nI i)]) (S := []) (v := none) (o2 := (wd_row o 8 (mf_go (o.1 8) m i))) (ct_X8_go (hQ _ q0) (by omega)) (mm_fit_of cbX8_goesOn (by decide) (by decide)) wq1061 cvX8_goesOn wv14 rfl rfl rfl (Nat.le_of_ble_eq_true rfl) (by decide) (by decide) rfl dX8_tick_78 ?_
    refine aw_iinc (n := 1) (x := (nI i)) (v := nI (i + 1)) (L2 := [some (.ref (ad 14 0 0)), some (.int (nI t)), some (.int (nI j)), some (.int (nI (i + 1)))]) rfl (nI_1 i) (by decide) rfl rfl dX8_tick_81 ?_
    refine aw_goto (tgt := 66) (by decide) dX8_tick_84 ?_
    exact AW.locs (ih (i + 1) (wd_row o 8 (mf_go (o.1 8) m i))  (by omega) (by rw [row_self]; exact hS _ _ (by omega) q0) (by simpa only [mf_turns, row_self, row_row] using K)) (lsub_keep (lsub_keep (lsub_keep (lsub_keep lsub_nil))))
def mf_use (N : Nat → Int32) (i : Nat) : Int32 := if N (20 * i + 1) = 0 then 0 else 1
theorem lp_busy {ad : Nat → Nat → Nat → Nat} {o : wd_S} {n m : Nat} (G : cg (o.1 8) n m) {t : Nat} : ∀ (k i : Nat) (a : Int32), i + k = n → AW ad MX8_tick 97 [some (.ref (ad 14 0 0)), some (.int (nI t)), some (.int a), some (.int (nI i))] [] o 0 0 (RT (some (.int (a + sumF (mf_use (o.1 8)) (k) (i)))) o) := by
  obtain ⟨g1, g2, g3, g4, g5, g6⟩ := id G
  intro k
  induction k with
  | zero =>
    intro i a hk
    refine aw_iload_n (x := (nI i)) rfl dX8_tick_97 ?_
    refine aw_aload_n (x := ad 14 0 0) rfl dX8_tick_98 ?_
    refine aw_getr (q := (15, 0, 0)) wv14 rfl flX8_7 rfl rfl dX8_tick_99 ?_
    refine aw_iconst (v := 0) (by decide) dX8_tick_102 ?_
    refine aw_ild (x := 0) (q := (8, 0)) (y := nI n) (by decide) (wv15 (by decide)) rfl G.1 (Nat.le_of_ble_eq_true rfl) rfl dX8_tick_103 ?_
    refine aw_icmp_ge (tgt := 130) (by decide) dX8_tick_104 (fun _ => ?_) (fun z => absurd (nI_le (by omega) (by omega)) z)
    refine aw_iload_n (x := a) rfl dX8_tick_130 ?_
    exact aw_iret rfl (by decide) (by decide) dX8_tick_131 ⟨by first | rfl | (simp [sumF, mf_use, mem]; done) | (simp_all [sumF, mf_use, mem]; done), by first | rfl | (simp [sumF, mf_use, mem]; done) | (simp_all [sumF, mf_use, mem]; done)⟩
  | succ k ih =>
    intro i a hk
    refine aw_iload_n (x := (nI i)) rfl dX8_tick_97 ?_
    refine aw_aload_n (x := ad 14 0 0) rfl dX8_tick_98 ?_
    refine aw_getr (q := (15, 0, 0)) wv14 rfl flX8_7 rfl rfl dX8_tick_99 ?_
    refine aw_iconst (v := 0) (by decide) dX8_tick_102 ?_
    refine aw_ild (x := 0) (q := (8, 0)) (y := nI n) (by decide) (wv15 (by decide)) rfl G.1 (Nat.le_of_ble_eq_true rfl) rfl dX8_tick_103 ?_
    refine aw_icmp_ge (tgt := 130) (by decide) dX8_tick_104 (fun z => absurd z (nI_ge (by omega) (by omega))) (fun _ => ?_)
    refine aw_iload_n (x := a) rfl dX8_tick_107 ?_
    refine aw_aload_n (x := ad 14 0 0) rfl dX8_tick_108 ?_
    refine aw_iload_n (x := (nI i)) rfl dX8_tick_109 ?_
    refine aw_iconst (v := 0) (by decide) dX8_tick_110 ?_
    refine aw_rV (As := [.int (nI i), .int 0]) (S := [.int a]) (v := some (.int (o.1 8 (20 * i + 1)))) (o2 := o) (ct_X8_of (l := i) (w := 0) (by omega) (by decide)) (mm_fit_of cbX8_of (by decide) (by decide)) wq969 cvX8_of wv14 rfl rfl rfl (Nat.le_of_ble_eq_true rfl) (by decide) (by decide) rfl dX8_tick_111 ?_
    refine aw_if_ne (tgt := 121) (by decide) dX8_tick_114 (fun b1 => ?_) (fun b1 => ?_)
    · skip
      refine aw_iconst (v := 1) (by decide) dX8_tick_121 ?_
      refine aw_iaddz (z := a + 1) rfl dX8_tick_122 ?_
      refine aw_istore_n (L2 := [some (.ref (ad 14 0 0)), some (.int (nI t)), some (.int (a + 1)), some (.int (nI i))]) (by decide) rfl rfl dX8_tick_123 ?_
      refine aw_iinc (n := 1) (x := (nI i)) (v := nI (i + 1)) (L2 := [some (.ref (ad 14 0 0)), some (.int (nI t)), some (.int (a + 1)), some (.int (nI (i + 1)))]) rfl (nI_1 i) (by decide) rfl rfl dX8_tick_124 ?_
      refine aw_goto (tgt := 97) (by decide) dX8_tick_127 ?_
      have e9 : (RT (some (.int (a + sumF (mf_use (o.1 8)) (k + 1) (i)))) o) = (RT (some (.int ((a + 1) + sumF (mf_use (o.1 8)) (k) (i + 1)))) o) := by first | (simp [sumF, mf_use, sumF_acc, mem, b1]; done) | (simp_all [sumF, mf_use, sumF_acc, mem, b1]; done)
      rw [e9]
      exact AW.locs (ih (i + 1) (a + 1) (by omega) ) (lsub_keep (lsub_keep (lsub_keep (lsub_keep lsub_nil))))
    · skip
      refine aw_iconst (v := 0) (by decide) dX8_tick_117 ?_
      refine aw_goto (tgt := 122) (by decide) dX8_tick_118 ?_
      refine aw_iaddz (z := a + 0) rfl dX8_tick_122 ?_
      refine aw_istore_n (L2 := [some (.ref (ad 14 0 0)), some (.int (nI t)), some (.int (a + 0)), some (.int (nI i))]) (by decide) rfl rfl dX8_tick_123 ?_
      refine aw_iinc (n := 1) (x := (nI i)) (v := nI (i + 1)) (L2 := [some (.ref (ad 14 0 0)), some (.int (nI t)), some (.int (a + 0)), some (.int (nI (i + 1)))]) rfl (nI_1 i) (by decide) rfl rfl dX8_tick_124 ?_
      refine aw_goto (tgt := 97) (by decide) dX8_tick_127 ?_
      have e9 : (RT (some (.int (a + sumF (mf_use (o.1 8)) (k + 1) (i)))) o) = (RT (some (.int ((a + 0) + sumF (mf_use (o.1 8)) (k) (i + 1)))) o) := by first | (simp [sumF, mf_use, sumF_acc, mem, b1]; done) | (simp_all [sumF, mf_use, sumF_acc, mem, b1]; done)
      rw [e9]
      exact AW.locs (ih (i + 1) (a + 0) (by omega) ) (lsub_keep (lsub_keep (lsub_keep (lsub_keep lsub_nil))))
theorem lp_ticks {ad : Nat → Nat → Nat → Nat} {n m t : Nat} {Q : (Nat → Int32) → Prop} (hQ : ∀ N, Q N → mi N n m) (hS : ∀ N l, l < n → Q N → Q (mf_go N m l)) (hT : ∀ N, Q N → Q (mf_tims n 0 N)) (ht : t ≤ 200) : ∀ (k i : Nat) (o : wd_S) , i + k = t → (Q (o.1 8)) → AW ad MX8_tick 27 [some (.ref (ad 14 0 0)), some (.int (nI t)), some (.int (nI i)), none] [] o 0 0 (RT (some (.int (sumF (mf_use (mf_ticks n m (k) (o.1 8))) n 0))) (wd_row o 8 (mf_ticks n m (k) (o.1 8)))) := by
  intro k
  induction k with
  | zero =>
    intro i o hk q0
    have g2 := (hQ _ q0).1.2.1
    refine aw_iload_n (x := (nI i)) rfl dX8_tick_27 ?_
    refine aw_iload_n (x := (nI t)) rfl dX8_tick_28 ?_
    refine aw_icmp_ge (tgt := 93) (by decide) dX8_tick_29 (fun _ => ?_) (fun z => absurd (nI_le (by omega) (by omega)) z)
    refine aw_iconst (v := 0) (by decide) dX8_tick_93 ?_
    refine aw_istore_n (L2 := [some (.ref (ad 14 0 0)), some (.int (nI t)), some (.int 0), none]) (by decide) rfl rfl dX8_tick_94 ?_
    refine aw_iconst (v := 0) (by decide) dX8_tick_95 ?_
    refine aw_istore_n (L2 := [some (.ref (ad 14 0 0)), some (.int (nI t)), some (.int 0), some (.int 0)]) (by decide) rfl rfl dX8_tick_96 ?_
    exact AW.post (AW.locs (lp_busy (hQ _ q0).1 n 0 0 (by omega)) (lsub_keep (lsub_keep (lsub_keep (lsub_keep lsub_nil))))) (fun r o2 q => by simpa [mf_ticks, row_id] using q)
  | succ k ih =>
    intro i o hk q0
    have g2 := (hQ _ q0).1.2.1
    refine aw_iload_n (x := (nI i)) rfl dX8_tick_27 ?_
    refine aw_iload_n (x := (nI t)) rfl dX8_tick_28 ?_
    refine aw_icmp_ge (tgt := 93) (by decide) dX8_tick_29 (fun z => absurd z (nI_ge (by omega) (by omega))) (fun _ => ?_)
    refine aw_iconst (v := 0) (by decide) dX8_tick_32 ?_
    refine aw_istore_n (L2 := [some (.ref (ad 14 0 0)), some (.int (nI t)), some (.int (nI i)), some (.int 0)]) (by decide) rfl rfl dX8_tick_33 ?_
    refine lp_tims n 0 o (by omega) (hQ _ q0).1 ?_
    refine aw_iconst (v := 0) (by decide) dX8_tick_64 ?_
    refine aw_istore_n (L2 := [some (.ref (ad 14 0 0)), some (.int (nI t)), some (.int (nI i)), some (.int 0)]) (by decide) rfl rfl dX8_tick_65 ?_
    refine lp_turns hQ hS n 0 (wd_row o 8 (mf_tims n 0 (o.1 8))) (by omega) (by rw [row_self]; exact hT _ q0) ?_
    rw [row_self, row_row]
    refine aw_iinc (n := 1) (x := (nI i)) (v := nI (i + 1)) (L2 := [some (.ref (ad 14 0 0)), some (.int (nI t)), some (.int (nI (i + 1))), none]) rfl (nI_1 i) (by decide) rfl rfl dX8_tick_87 ?_
    refine aw_goto (tgt := 27) (by decide) dX8_tick_90 ?_
    have e9 : (RT (some (.int (sumF (mf_use (mf_ticks n m (k + 1) (o.1 8))) n 0))) (wd_row o 8 (mf_ticks n m (k + 1) (o.1 8)))) = (RT (some (.int (sumF (mf_use (mf_ticks n m (k) ((wd_row o 8 (mf_turns m n 0 (mf_tims n 0 (o.1 8)))).1 8))) n 0))) (wd_row (wd_row o 8 (mf_turns m n 0 (mf_tims n 0 (o.1 8)))) 8 (mf_ticks n m (k) ((wd_row o 8 (mf_turns m n 0 (mf_tims n 0 (o.1 8)))).1 8)))) := by simp only [mf_ticks, mf_tick, row_self, row_row]
    rw [e9]
    exact AW.locs (ih (i + 1) (wd_row o 8 (mf_turns m n 0 (mf_tims n 0 (o.1 8))))  (by omega) (by rw [row_self]; exact tims_Q hS n 0 _ (by omega) (hT _ q0))) (lsub_keep (lsub_keep (lsub_keep (lsub_keep lsub_nil))))
