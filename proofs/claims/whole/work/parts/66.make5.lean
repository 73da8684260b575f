/-! the reference's constructor; PartyLines' constructor -/
def RW (h h2 : mm_H) (r : Nat) (N : Nat → Int32) : Prop := (∀ b, mm_k h2 b = mm_k h b) ∧ (∀ b, mm_n h2 b = mm_n h b) ∧ (∀ b k, mm_j h2 b k = mm_j h b k) ∧ (∀ b k, mm_p h2 b k = mm_p h b k) ∧ (∀ b, b ≠ r → ∀ k, mm_i h2 b k = mm_i h b k) ∧ ∀ x, mm_i h2 r x = N x
theorem RW.si {h h2 : mm_H} {r : Nat} {N : Nat → Int32} (X : RW h h2 r N) (x : Nat) (v : Int32) : RW h (mm_si h2 r x v) r (upd N x v) := by
  obtain ⟨a, b, c, d, e, f⟩ := X
  refine ⟨a, b, c, d, fun b2 hb k => by rw [mm_i_si, if_neg (fun z => hb z.1)]; exact e b2 hb k, fun y => ?_⟩
  rw [mm_i_si]
  by_cases hy : y = x
  · subst hy; rw [if_pos ⟨rfl, rfl⟩, upd_self]
  · rw [if_neg (fun z => hy z.2), upd_ne _ _ hy]; exact f y
theorem RW.eqa {h h2 : mm_H} {r b : Nat} {N : Nat → Int32} (X : RW h h2 r N) (hb : b ≠ r) : eqa h h2 b := ⟨X.1 b, X.2.1 b, X.2.2.2.2.1 b hb, X.2.2.1 b, X.2.2.2.1 b⟩
/-- the reference's object at m with its row now at r -/
def MD (h : mm_H) (m r : Nat) : Prop := mm_k h m = 8 ∧ mm_p h m 0 = some r ∧ mm_k h r = 9 ∧ mm_n h r = 237
theorem RW.md {h h2 : mm_H} {r m : Nat} {N : Nat → Int32} (X : RW h h2 r N) (D : MD h m r) : MD h2 m r := ⟨(X.1 m).trans D.1, (X.2.2.2.1 m 0).trans D.2.1, (X.1 r).trans D.2.2.1, (X.2.1 r).trans D.2.2.2⟩
theorem mc_X8_put {h : mm_H} {m r l w : Nat} {v : Int32} (D : MD h m r) (hl : l < 5) (hw : w < 20) : mm_Met MX8_put [.ref m, .int (nI l), .int (nI w), .int v] h (fun q h2 => q = .inl none ∧ h2 = mm_si h r (1 + 20 * l + w) v) := by
  refine mm_met_of (L := [some (.ref m), some (.int (nI l)), some (.int (nI w)), some (.int v)]) rfl rfl (by decide) (Nat.le_of_ble_eq_true rfl) rfl ?_
  refine mw_aload_n (x := m) rfl dX8_put_0 ?_
  refine mw_getf (k := 0) (v := .ref r) okc7 (by decide) wq892 D.1 (by show va_rf (mm_p h m 0) = .ref r; rw [D.2.1]; rfl) dX8_put_1 ?_
  refine mw_iconst (v := nI 1) (by decide) dX8_put_4 ?_
  refine mw_bipush (v := nI 20) (by decide) dX8_put_5 ?_
  refine mw_iload_n (x := nI l) rfl dX8_put_7 ?_
  refine mw_imul dX8_put_8 ?_
  rw [nI_mul]
  refine mw_iadd dX8_put_9 ?_
  rw [nI_add]
  refine mw_iload_n (x := nI w) rfl dX8_put_10 ?_
  refine mw_iadd dX8_put_11 ?_
  rw [nI_add]
  refine mw_iload_n (x := v) rfl dX8_put_12 ?_
  refine mw_iast D.2.2.1 (by rw [D.2.2.2]; exact nI_in (by omega) (by decide)) dX8_put_13 ?_
  rw [nI_clamp (by omega)]
  exact mw_vret rfl dX8_put_14 (by decide) (by decide) ⟨rfl, rfl⟩
def rsk (l : Nat) : Nat → Nat → (Nat → Int32) → Nat → Int32
  | 0, _, N => N
  | k + 1, i, N => rsk l k (i + 1) (upd N (1 + 20 * l + (8 + i)) 1)
def mkN (l : Nat) (N : Nat → Int32) : Nat → Int32 := rsk l 12 0 (upd (upd (upd (upd (upd N 0 (nI l + 1)) (1 + 20 * l + 2) (-1)) (1 + 20 * l + 3) (-1)) (1 + 20 * l + 4) (-1)) (1 + 20 * l + 6) (-1))
theorem lp_mk {h : mm_H} {m r l : Nat} (D : MD h m r) (hl : l < 5) : ∀ (k i : Nat) (h2 : mm_H) (N : Nat → Int32), i + k = 12 → RW h h2 r N → MW MX8_makesLoop 48 [some (.ref m), some (.int (nI l)), some (.int (nI i))] [] h2 0 0 (fun q h3 => q = .inl none ∧ RW h h3 r (rsk l k i N)) := by
  intro k
  induction k with
  | zero =>
    intro i h2 N hi X
    have : i = 12 := by omega
    subst this
    refine mw_iload_n (x := nI 12) rfl dX8_makesLoop_48 ?_
    refine mw_bipush (v := 12) (by decide) dX8_makesLoop_49 ?_
    refine mw_icmp_ge (tgt := 70) dX8_makesLoop_51 (by decide) (fun _ => ?_) (fun z => absurd (by decide) z)
    exact mw_vret rfl dX8_makesLoop_70 (by decide) (by decide) ⟨rfl, X⟩
  | succ k ih =>
    intro i h2 N hi X
    refine mw_iload_n (x := nI i) rfl dX8_makesLoop_48 ?_
    refine mw_bipush (v := 12) (by decide) dX8_makesLoop_49 ?_
    refine mw_icmp_ge (tgt := 70) dX8_makesLoop_51 (by decide) (fun z => absurd z (nI_ge (b := 12) (by omega) (by decide))) (fun _ => ?_)
    refine mw_aload_n (x := m) rfl dX8_makesLoop_54 ?_
    refine mw_iload_n (x := nI l) rfl dX8_makesLoop_55 ?_
    refine mw_bipush (v := nI 8) (by decide) dX8_makesLoop_56 ?_
    refine mw_iload_n (x := nI i) rfl dX8_makesLoop_58 ?_
    refine mw_iadd dX8_makesLoop_59 ?_
    rw [nI_add]
    refine mw_iconst (v := 1) (by decide) dX8_makesLoop_60 ?_
    refine mw_rV (As := [.int (nI l), .int (nI (8 + i)), .int 1]) (S := []) (mc_X8_put (X.md D) hl (by omega)) (mm_fit_of cbX8_put (by decide) (by decide)) wq888 cvX8_put ((X.1 m).trans D.1) rfl rfl (Nat.le_of_ble_eq_true rfl) (by decide) (by decide) dX8_makesLoop_61 (fun h3 e3 => ?_)
    subst e3
    refine mw_iinc (n := 1) (x := nI i) (v := nI (i + 1)) (L2 := [some (.ref m), some (.int (nI l)), some (.int (nI (i + 1)))]) dX8_makesLoop_64 rfl (nI_add i 1) (by decide) rfl rfl ?_
    refine mw_goto (tgt := 48) (by decide) dX8_makesLoop_67 ?_
    exact ih (i + 1) _ _ (by omega) (X.si _ _)
theorem mc_X8_makes {h : mm_H} {m r l : Nat} {N : Nat → Int32} (D : MD h m r) (hl : l < 5) (hN : ∀ x, mm_i h r x = N x) (h0 : N 0 = nI l) : mm_Met MX8_makesLoop [.ref m] h (fun q h2 => q = .inl none ∧ RW h h2 r (mkN l N)) := by
  have X0 : RW h h r N := ⟨fun _ => rfl, fun _ => rfl, fun _ _ => rfl, fun _ _ => rfl, fun _ _ _ => rfl, hN⟩
  refine mm_met_of (L := [some (.ref m), none, none]) rfl rfl (by decide) (Nat.le_of_ble_eq_true rfl) rfl ?_
  refine mw_aload_n (x := m) rfl dX8_makesLoop_0 ?_
  refine mw_getf (k := 0) (v := .ref r) okc7 (by decide) wq892 D.1 (by show va_rf (mm_p h m 0) = .ref r; rw [D.2.1]; rfl) dX8_makesLoop_1 ?_
  refine mw_iconst (v := nI 0) (by decide) dX8_makesLoop_4 ?_
  refine mw_iald (v := nI l) D.2.2.1 (by rw [D.2.2.2]; exact nI_in (by omega) (by decide)) (by rw [nI_clamp (by decide), hN, h0]) dX8_makesLoop_5 ?_
  refine mw_istore_n (L2 := [some (.ref m), some (.int (nI l)), none]) dX8_makesLoop_6 (by decide) rfl rfl ?_
  refine mw_aload_n (x := m) rfl dX8_makesLoop_7 ?_
  refine mw_getf (k := 0) (v := .ref r) okc7 (by decide) wq892 D.1 (by show va_rf (mm_p h m 0) = .ref r; rw [D.2.1]; rfl) dX8_makesLoop_8 ?_
  refine mw_iconst (v := nI 0) (by decide) dX8_makesLoop_11 ?_
  refine mw_dup2 rfl rfl dX8_makesLoop_12 ?_
  refine mw_iald (v := nI l) D.2.2.1 (by rw [D.2.2.2]; exact nI_in (by omega) (by decide)) (by rw [nI_clamp (by decide), hN, h0]) dX8_makesLoop_13 ?_
  refine mw_iconst (v := 1) (by decide) dX8_makesLoop_14 ?_
  refine mw_iadd dX8_makesLoop_15 ?_
  refine mw_iast D.2.2.1 (by rw [D.2.2.2]; exact nI_in (by omega) (by decide)) dX8_makesLoop_16 ?_
  rw [nI_clamp (by decide)]
  have X1 := X0.si 0 (nI l + 1)
  generalize mm_si h r 0 (nI l + 1) = h1 at X1
  refine mw_aload_n (x := m) rfl dX8_makesLoop_17 ?_
  refine mw_iload_n (x := nI l) rfl dX8_makesLoop_18 ?_
  refine mw_iconst (v := nI 2) (by decide) dX8_makesLoop_19 ?_
  refine mw_iconst (v := -1) (by decide) dX8_makesLoop_20 ?_
  refine mw_rV (As := [.int (nI l), .int (nI 2), .int (-1)]) (S := []) (mc_X8_put (X1.md D) hl (by omega)) (mm_fit_of cbX8_put (by decide) (by decide)) wq888 cvX8_put ((X1.1 m).trans D.1) rfl rfl (Nat.le_of_ble_eq_true rfl) (by decide) (by decide) dX8_makesLoop_21 (fun h2 e2 => ?_)
  have X2 := X1.si (1 + 20 * l + 2) (-1)
  rw [← e2] at X2
  refine mw_aload_n (x := m) rfl dX8_makesLoop_24 ?_
  refine mw_iload_n (x := nI l) rfl dX8_makesLoop_25 ?_
  refine mw_iconst (v := nI 3) (by decide) dX8_makesLoop_26 ?_
  refine mw_iconst (v := -1) (by decide) dX8_makesLoop_27 ?_
  refine mw_rV (As := [.int (nI l), .int (nI 3), .int (-1)]) (S := []) (mc_X8_put (X2.md D) hl (by omega)) (mm_fit_of cbX8_put (by decide) (by decide)) wq888 cvX8_put ((X2.1 m).trans D.1) rfl rfl (Nat.le_of_ble_eq_true rfl) (by decide) (by decide) dX8_makesLoop_28 (fun h3 e3 => ?_)
  have X3 := X2.si (1 + 20 * l + 3) (-1)
  rw [← e3] at X3
  refine mw_aload_n (x := m) rfl dX8_makesLoop_31 ?_
  refine mw_iload_n (x := nI l) rfl dX8_makesLoop_32 ?_
  refine mw_iconst (v := nI 4) (by decide) dX8_makesLoop_33 ?_
  refine mw_iconst (v := -1) (by decide) dX8_makesLoop_34 ?_
  refine mw_rV (As := [.int (nI l), .int (nI 4), .int (-1)]) (S := []) (mc_X8_put (X3.md D) hl (by omega)) (mm_fit_of cbX8_put (by decide) (by decide)) wq888 cvX8_put ((X3.1 m).trans D.1) rfl rfl (Nat.le_of_ble_eq_true rfl) (by decide) (by decide) dX8_makesLoop_35 (fun h4 e4 => ?_)
  have X4 := X3.si (1 + 20 * l + 4) (-1)
  rw [← e4] at X4
  refine mw_aload_n (x := m) rfl dX8_makesLoop_38 ?_
  refine mw_iload_n (x := nI l) rfl dX8_makesLoop_39 ?_
  refine mw_bipush (v := nI 6) (by decide) dX8_makesLoop_40 ?_
  refine mw_iconst (v := -1) (by decide) dX8_makesLoop_42 ?_
  refine mw_rV (As := [.int (nI l), .int (nI 6), .int (-1)]) (S := []) (mc_X8_put (X4.md D) hl (by omega)) (mm_fit_of cbX8_put (by decide) (by decide)) wq888 cvX8_put ((X4.1 m).trans D.1) rfl rfl (Nat.le_of_ble_eq_true rfl) (by decide) (by decide) dX8_makesLoop_43 (fun h5 e5 => ?_)
  have X5 := X4.si (1 + 20 * l + 6) (-1)
  rw [← e5] at X5
  refine mw_iconst (v := 0) (by decide) dX8_makesLoop_46 ?_
  refine mw_istore_n (L2 := [some (.ref m), some (.int (nI l)), some (.int (nI 0))]) dX8_makesLoop_47 (by decide) rfl rfl ?_
  exact lp_mk D hl 12 0 h5 _ (by decide) X5
def NF : Nat → Int32 := mkN 1 (mkN 0 (upd (fun _ => 0) 230 60))
/-- the reference, made: its rows at r 0 .. r 3 -/
def MI (h h1 : mm_H) (m : Nat) (r : Nat → Nat) : Prop := mm_k h1 m = 8 ∧ mm_p h1 m 0 = some (r 0) ∧ mm_p h1 m 1 = some (r 1) ∧ mm_p h1 m 4 = some (r 2) ∧ mm_p h1 m 5 = some (r 3) ∧ (∀ k, mm_i h1 m k = mm_i h m k) ∧ (∀ k, mm_j h1 m k = mm_j h m k) ∧ (∀ i, i < 4 → mm_k h1 (r i) = 9 ∧ mm_n h1 (r i) = wd_n 15 i ∧ mm_k h (r i) = 0) ∧ (∀ x, mm_i h1 (r 0) x = NF x) ∧ (∀ i, 1 ≤ i → i < 4 → ∀ x, mm_i h1 (r i) x = 0) ∧ (∀ i j, i < 4 → j < 4 → r i = r j → i = j) ∧ kp h h1 m
theorem mc_X8_init {h : mm_H} {m : Nat} (hm : mm_k h m = 8) : mm_Met MX8_init [.ref m] h (fun q h2 => q = .inl none ∧ ∃ r, MI h h2 m r) := by
  refine mm_met_of (L := [some (.ref m)]) rfl rfl (by decide) (Nat.le_of_ble_eq_true rfl) rfl ?_
  refine mw_aload_n (x := m) rfl dX8_init_0 ?_
  refine mw_objinit wq883 wq22 wq23 (by decide) (Nat.le_of_ble_eq_true rfl) dX8_init_1 ?_
  refine mw_aload_n (x := m) rfl dX8_init_4 ?_
  refine mw_sipush (v := 237) (by decide) dX8_init_5 ?_
  refine mw_newa (at2 := .int) (ty := 0) (N := 237) (by decide) rfl wq92 (by decide) (by decide) (by decide) dX8_init_8 (by decide) (Nat.le_of_ble_eq_true rfl) (fun r0 hr0 => ?_)
  have m0 : m ≠ r0 := ne_k (by rw [hm]; decide) hr0
  refine mw_putr (k := 0) (x := r0) (ty := .array .int) okc7 (by decide) wq892 (by rw [kn_ne _ m0]; exact hm) (Or.inr ⟨rfl, rfl, rfl⟩) (by decide +kernel) rfl rfl rfl dX8_init_10 ?_
  generalize hA : mm_sp (mm_new h r0 (0 + 9) 237) m 0 (some r0) = A
  have kA : mm_k A m = 8 := by rw [← hA, mm_k_sp, kn_ne _ m0]; exact hm
  have kA0 : mm_k A r0 = 9 := by rw [← hA, mm_k_sp]; exact mm_kself _ _ _ _
  have KA : kp h A m := by rw [← hA]; exact (kp.rfl'.new hr0).sp (Or.inl rfl)
  refine mw_aload_n (x := m) rfl dX8_init_13 ?_
  refine mw_sipush (v := 948) (by decide) dX8_init_14 ?_
  refine mw_newa (at2 := .int) (ty := 0) (N := 948) (by decide) rfl wq92 (by decide) (by decide) (by decide) dX8_init_17 (by decide) (Nat.le_of_ble_eq_true rfl) (fun r1 hr1 => ?_)
  have m1 : m ≠ r1 := ne_k (by rw [kA]; decide) hr1
  have r01 : r0 ≠ r1 := ne_k (by rw [kA0]; decide) hr1
  refine mw_putr (k := 1) (x := r1) (ty := .array .int) okc7 (by decide) wq893 (by rw [kn_ne _ m1]; exact kA) (Or.inr ⟨rfl, rfl, rfl⟩) (by decide +kernel) rfl rfl rfl dX8_init_19 ?_
  generalize hB : mm_sp (mm_new A r1 (0 + 9) 948) m 1 (some r1) = B
  have kB : mm_k B m = 8 := by rw [← hB, mm_k_sp, kn_ne _ m1]; exact kA
  have kB1 : mm_k B r1 = 9 := by rw [← hB, mm_k_sp]; exact mm_kself _ _ _ _
  have EB0 : eqa A B r0 := by rw [← hB]; exact (eqa_new r01).trans (eqa_sp (Ne.symm m0))
  have KB : kp h B m := by rw [← hB]; exact (KA.new hr1).sp (Or.inl rfl)
  refine mw_aload_n (x := m) rfl dX8_init_22 ?_
  refine mw_sipush (v := 169) (by decide) dX8_init_23 ?_
  refine mw_newa (at2 := .int) (ty := 0) (N := 169) (by decide) rfl wq92 (by decide) (by decide) (by decide) dX8_init_26 (by decide) (Nat.le_of_ble_eq_true rfl) (fun r2 hr2 => ?_)
  have m2 : m ≠ r2 := ne_k (by rw [kB]; decide) hr2
  have r12 : r1 ≠ r2 := ne_k (by rw [kB1]; decide) hr2
  have r02 : r0 ≠ r2 := ne_k (by rw [EB0.1, kA0]; decide) hr2
  refine mw_putr (k := 4) (x := r2) (ty := .array .int) okc7 (by decide) wq896 (by rw [kn_ne _ m2]; exact kB) (Or.inr ⟨rfl, rfl, rfl⟩) (by decide +kernel) rfl rfl rfl dX8_init_28 ?_
  generalize hC : mm_sp (mm_new B r2 (0 + 9) 169) m 4 (some r2) = C
  have kC : mm_k C m = 8 := by rw [← hC, mm_k_sp, kn_ne _ m2]; exact kB
  have kC2 : mm_k C r2 = 9 := by rw [← hC, mm_k_sp]; exact mm_kself _ _ _ _
  have EC0 : eqa B C r0 := by rw [← hC]; exact (eqa_new r02).trans (eqa_sp (Ne.symm m0))
  have EC1 : eqa B C r1 := by rw [← hC]; exact (eqa_new r12).trans (eqa_sp (Ne.symm m1))
  have KC : kp h C m := by rw [← hC]; exact (KB.new hr2).sp (Or.inl rfl)
  refine mw_aload_n (x := m) rfl dX8_init_31 ?_
  refine mw_sipush (v := 169) (by decide) dX8_init_32 ?_
  refine mw_newa (at2 := .int) (ty := 0) (N := 169) (by decide) rfl wq92 (by decide) (by decide) (by decide) dX8_init_35 (by decide) (Nat.le_of_ble_eq_true rfl) (fun r3 hr3 => ?_)
  have m3 : m ≠ r3 := ne_k (by rw [kC]; decide) hr3
  have r23 : r2 ≠ r3 := ne_k (by rw [kC2]; decide) hr3
  have r13 : r1 ≠ r3 := ne_k (by rw [EC1.1, kB1]; decide) hr3
  have r03 : r0 ≠ r3 := ne_k (by rw [EC0.1, EB0.1, kA0]; decide) hr3
  refine mw_putr (k := 5) (x := r3) (ty := .array .int) okc7 (by decide) wq897 (by rw [kn_ne _ m3]; exact kC) (Or.inr ⟨rfl, rfl, rfl⟩) (by decide +kernel) rfl rfl rfl dX8_init_37 ?_
  generalize hE : mm_sp (mm_new C r3 (0 + 9) 169) m 5 (some r3) = E
  have kE : mm_k E m = 8 := by rw [← hE, mm_k_sp, kn_ne _ m3]; exact kC
  have EE0 : eqa C E r0 := by rw [← hE]; exact (eqa_new r03).trans (eqa_sp (Ne.symm m0))
  have EE1 : eqa C E r1 := by rw [← hE]; exact (eqa_new r13).trans (eqa_sp (Ne.symm m1))
  have EE2 : eqa C E r2 := by rw [← hE]; exact (eqa_new r23).trans (eqa_sp (Ne.symm m2))
  have KE : kp h E m := by rw [← hE]; exact (KC.new hr3).sp (Or.inl rfl)
  have F0 : eqa A E r0 := EB0.trans (EC0.trans EE0)
  have F1 : eqa B E r1 := EC1.trans EE1
  have n0 : mm_n E r0 = 237 := by rw [F0.2.1, ← hA, mm_n_sp]; exact mm_nself _ _ _ _
  have n1 : mm_n E r1 = 948 := by rw [F1.2.1, ← hB, mm_n_sp]; exact mm_nself _ _ _ _
  have n2 : mm_n E r2 = 169 := by rw [EE2.2.1, ← hC, mm_n_sp]; exact mm_nself _ _ _ _
  have n3 : mm_n E r3 = 169 := by rw [← hE, mm_n_sp]; exact mm_nself _ _ _ _
  have k0 : mm_k E r0 = 9 := F0.1.trans kA0
  have k1 : mm_k E r1 = 9 := F1.1.trans kB1
  have k2 : mm_k E r2 = 9 := EE2.1.trans kC2
  have k3 : mm_k E r3 = 9 := by rw [← hE, mm_k_sp]; exact mm_kself _ _ _ _
  have i0 : ∀ x, mm_i E r0 x = 0 := fun x => by rw [F0.2.2.1, ← hA, mm_i_sp, in_q]
  have i1 : ∀ x, mm_i E r1 x = 0 := fun x => by rw [F1.2.2.1, ← hB, mm_i_sp, in_q]
  have i2 : ∀ x, mm_i E r2 x = 0 := fun x => by rw [EE2.2.2.1, ← hC, mm_i_sp, in_q]
  have i3 : ∀ x, mm_i E r3 x = 0 := fun x => by rw [← hE, mm_i_sp, in_q]
  have im : ∀ k, mm_i E m k = mm_i h m k := fun k => by rw [← hE, mm_i_sp, in_ne _ m3, ← hC, mm_i_sp, in_ne _ m2, ← hB, mm_i_sp, in_ne _ m1, ← hA, mm_i_sp, in_ne _ m0]
  have jm : ∀ k, mm_j E m k = mm_j h m k := fun k => by rw [← hE, mm_j_sp, jn_ne _ m3, ← hC, mm_j_sp, jn_ne _ m2, ← hB, mm_j_sp, jn_ne _ m1, ← hA, mm_j_sp, jn_ne _ m0]
  have p0 : mm_p E m 0 = some r0 := by rw [← hE, mm_p_sp, if_neg (by simp), pn_ne _ m3, ← hC, mm_p_sp, if_neg (by simp), pn_ne _ m2, ← hB, mm_p_sp, if_neg (by simp), pn_ne _ m1, ← hA, mm_p_sp, if_pos ⟨rfl, rfl⟩]
  have p1 : mm_p E m 1 = some r1 := by rw [← hE, mm_p_sp, if_neg (by simp), pn_ne _ m3, ← hC, mm_p_sp, if_neg (by simp), pn_ne _ m2, ← hB, mm_p_sp, if_pos ⟨rfl, rfl⟩]
  have p4 : mm_p E m 4 = some r2 := by rw [← hE, mm_p_sp, if_neg (by simp), pn_ne _ m3, ← hC, mm_p_sp, if_pos ⟨rfl, rfl⟩]
  have p5 : mm_p E m 5 = some r3 := by rw [← hE, mm_p_sp, if_pos ⟨rfl, rfl⟩]
  have D0 : MD E m r0 := ⟨kE, p0, k0, n0⟩
  refine mw_aload_n (x := m) rfl dX8_init_40 ?_
  refine mw_getf (k := 0) (v := .ref r0) okc7 (by decide) wq892 kE (by show va_rf (mm_p E m 0) = .ref r0; rw [p0]; rfl) dX8_init_41 ?_
  refine mw_sipush (v := nI 230) (by decide) dX8_init_44 ?_
  refine mw_bipush (v := 60) (by decide) dX8_init_47 ?_
  refine mw_iast k0 (by rw [n0]; exact nI_in (by decide) (by decide)) dX8_init_49 ?_
  rw [nI_clamp (by decide)]
  have Y0 : RW E E r0 (fun _ => 0) := ⟨fun _ => rfl, fun _ => rfl, fun _ _ => rfl, fun _ _ => rfl, fun _ _ _ => rfl, i0⟩
  have Y1 := Y0.si 230 60
  generalize mm_si E r0 230 60 = E1 at Y1
  refine mw_aload_n (x := m) rfl dX8_init_50 ?_
  refine mw_rV (As := []) (S := []) (mc_X8_makes (l := 0) (Y1.md D0) (by decide) Y1.2.2.2.2.2 (by decide)) (mm_fit_of cbX8_makesLoop (by decide) (by decide)) wq884 cvX8_makesLoop ((Y1.1 m).trans kE) rfl rfl (Nat.le_of_ble_eq_true rfl) (by decide) (Nat.le_of_ble_eq_true rfl) dX8_init_51 (fun E2 Y2 => ?_)
  refine mw_aload_n (x := m) rfl dX8_init_54 ?_
  refine mw_rV (As := []) (S := []) (mc_X8_makes (l := 1) (Y2.md (Y1.md D0)) (by decide) Y2.2.2.2.2.2 (by decide)) (mm_fit_of cbX8_makesLoop (by decide) (by decide)) wq884 cvX8_makesLoop ((Y2.1 m).trans ((Y1.1 m).trans kE)) rfl rfl (Nat.le_of_ble_eq_true rfl) (by decide) (Nat.le_of_ble_eq_true rfl) dX8_init_55 (fun E3 Y3 => ?_)
  have Z : ∀ b, b ≠ r0 → eqa E E3 b := fun b hb => (Y1.eqa hb).trans ((Y2.eqa hb).trans (Y3.eqa hb))
  have Zk : ∀ b, mm_k E3 b = mm_k E b := fun b => (Y3.1 b).trans ((Y2.1 b).trans (Y1.1 b))
  have Zn : ∀ b, mm_n E3 b = mm_n E b := fun b => (Y3.2.1 b).trans ((Y2.2.1 b).trans (Y1.2.1 b))
  have Zm := Z m m0
  refine mw_vret rfl dX8_init_58 (by decide) (Nat.le_of_ble_eq_true rfl) ⟨rfl, fun i => if i = 0 then r0 else if i = 1 then r1 else if i = 2 then r2 else r3, Zm.1.trans kE, (Zm.2.2.2.2 0).trans p0, (Zm.2.2.2.2 1).trans p1, (Zm.2.2.2.2 4).trans p4, (Zm.2.2.2.2 5).trans p5, fun k => (Zm.2.2.1 k).trans (im k), fun k => (Zm.2.2.2.1 k).trans (jm k), fun i hi => ?_, Y3.2.2.2.2.2, fun i h1 h2 x => ?_, fun i j hi hj e => ?_, ?_⟩
  · have : i = 0 ∨ i = 1 ∨ i = 2 ∨ i = 3 := by omega
    rcases this with rfl | rfl | rfl | rfl
    · exact ⟨(Zk r0).trans k0, (Zn r0).trans n0, hr0⟩
    · exact ⟨(Zk r1).trans k1, (Zn r1).trans n1, KA.old (by rw [kA]; decide) hr1⟩
    · exact ⟨(Zk r2).trans k2, (Zn r2).trans n2, KB.old (by rw [kB]; decide) hr2⟩
    · exact ⟨(Zk r3).trans k3, (Zn r3).trans n3, KC.old (by rw [kC]; decide) hr3⟩
  · have : i = 1 ∨ i = 2 ∨ i = 3 := by omega
    rcases this with rfl | rfl | rfl
    · exact ((Z r1 (Ne.symm r01)).2.2.1 x).trans (i1 x)
    · exact ((Z r2 (Ne.symm r02)).2.2.1 x).trans (i2 x)
    · exact ((Z r3 (Ne.symm r03)).2.2.1 x).trans (i3 x)
  · have hi' : i = 0 ∨ i = 1 ∨ i = 2 ∨ i = 3 := by omega
    have hj' : j = 0 ∨ j = 1 ∨ j = 2 ∨ j = 3 := by omega
    rcases hi' with rfl | rfl | rfl | rfl <;> rcases hj' with rfl | rfl | rfl | rfl <;> first | rfl | (exfalso; simp at e; first | exact r01 e | exact r01 e.symm | exact r02 e | exact r02 e.symm | exact r03 e | exact r03 e.symm | exact r12 e | exact r12 e.symm | exact r13 e | exact r13 e.symm | exact r23 e | exact r23 e.symm)
  · exact KE.step (fun b hb _ hb2 => Z b (fun z => hb (z ▸ hr0)))
