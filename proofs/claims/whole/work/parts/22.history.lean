/-! copies of states; History -/
/-- A, but what B holds from lo on, up to hi -/
def cp (A B : Nat → Int32) (lo hi : Nat) : Nat → Int32 := fun x => if lo ≤ x ∧ x < hi then B x else A x
/-- the booleans of a row are 0 or 1 -/
def bz (B : Nat → Int32) : Prop := (∀ l, l < 5 → (B (20 * l + 6) = 0 ∨ B (20 * l + 6) = 1) ∧ (B (20 * l + 8) = 0 ∨ B (20 * l + 8) = 1)) ∧ ∀ s, s < 16 → (B (101 + 8 * s + 4) = 0 ∨ B (101 + 8 * s + 4) = 1) ∧ (B (101 + 8 * s + 6) = 0 ∨ B (101 + 8 * s + 6) = 1) ∧ (B (101 + 8 * s + 7) = 0 ∨ B (101 + 8 * s + 7) = 1)
theorem cp_upd (A B : Nat → Int32) (lo hi : Nat) (h : lo ≤ hi) : upd (cp A B lo hi) hi (B hi) = cp A B lo (hi + 1) := by
  funext x
  unfold upd cp
  by_cases hx : x = hi
  · subst hx
    rw [if_pos rfl, if_pos ⟨h, by omega⟩]
  · rw [if_neg hx]
    by_cases hc : lo ≤ x ∧ x < hi
    · rw [if_pos hc, if_pos ⟨hc.1, by omega⟩]
    · rw [if_neg hc, if_neg (by omega)]
theorem cp_nil (A B : Nat → Int32) (lo : Nat) : cp A B lo lo = A := by
  funext x
  unfold cp
  rw [if_neg (by omega)]
theorem cp_cp (A B : Nat → Int32) {lo mid hi : Nat} (h1 : lo ≤ mid) (h2 : mid ≤ hi) : cp (cp A B lo mid) B mid hi = cp A B lo hi := by
  funext x
  unfold cp
  by_cases a : mid ≤ x ∧ x < hi
  · rw [if_pos a, if_pos (by omega)]
  · rw [if_neg a]
    by_cases b : lo ≤ x ∧ x < mid
    · rw [if_pos b, if_pos (by omega)]
    · rw [if_neg b, if_neg (by omega)]
theorem cp_ge (A B : Nat → Int32) {lo hi : Nat} (h : hi ≤ lo) : cp A B lo hi = A := by
  funext x
  unfold cp
  rw [if_neg (by omega)]
/-- the cells in use of a row with n loops and m subscribers -/
abbrev uz (n m x : Nat) : Prop := x = 0 ∨ (1 ≤ x ∧ x < 20 * n + 1) ∨ x = 101 ∨ (102 ≤ x ∧ x < 101 + 8 * m + 1) ∨ (230 ≤ x ∧ x < 237)
/-- A, but what B holds in the cells in use -/
def cpn (A B : Nat → Int32) (n m : Nat) : Nat → Int32 := fun x => if uz n m x then B x else A x
/-- the same, by B's own counts -/
def cpr (A B : Nat → Int32) : Nat → Int32 := cpn A B (B 0).toNatClampNeg (B 101).toNatClampNeg
theorem cpr_eq (A : Nat → Int32) {B : Nat → Int32} {n m : Nat} (h0 : B 0 = nI n) (h1 : B 101 = nI m) (hn : n ≤ 5) (hm : m ≤ 16) : cpr A B = cpn A B n m := by
  unfold cpr
  rw [h0, h1, nI_clamp (by omega), nI_clamp (by omega)]
theorem cpn_in (A B : Nat → Int32) {n m x : Nat} (h : uz n m x) : cpn A B n m x = B x := if_pos h
theorem cpn_or (A B : Nat → Int32) (n m x : Nat) : cpn A B n m x = A x ∨ cpn A B n m x = B x := by
  unfold cpn
  by_cases h : uz n m x
  · exact Or.inr (if_pos h)
  · exact Or.inl (if_neg h)
theorem bz_cpn {A B : Nat → Int32} (n m : Nat) (ZA : bz A) (ZB : bz B) : bz (cpn A B n m) := by
  refine ⟨fun l hl => ⟨?_, ?_⟩, fun s hs => ⟨?_, ?_, ?_⟩⟩
  · rcases cpn_or A B n m (20 * l + 6) with h | h <;> rw [h]
    · exact (ZA.1 l hl).1
    · exact (ZB.1 l hl).1
  · rcases cpn_or A B n m (20 * l + 8) with h | h <;> rw [h]
    · exact (ZA.1 l hl).2
    · exact (ZB.1 l hl).2
  · rcases cpn_or A B n m (101 + 8 * s + 4) with h | h <;> rw [h]
    · exact (ZA.2 s hs).1
    · exact (ZB.2 s hs).1
  · rcases cpn_or A B n m (101 + 8 * s + 6) with h | h <;> rw [h]
    · exact (ZA.2 s hs).2.1
    · exact (ZB.2 s hs).2.1
  · rcases cpn_or A B n m (101 + 8 * s + 7) with h | h <;> rw [h]
    · exact (ZA.2 s hs).2.2
    · exact (ZB.2 s hs).2.2
theorem bz_cpr {A B : Nat → Int32} (ZA : bz A) (ZB : bz B) : bz (cpr A B) := bz_cpn _ _ ZA ZB
theorem cp20 (A B : Nat → Int32) (l : Nat) : upd (upd (upd (upd (upd (upd (upd (upd (upd (upd (upd (upd (upd (upd (upd (upd (upd (upd (upd (upd (A) (20 * l + 1) (B (20 * l + 1))) (20 * l + 2) (B (20 * l + 2))) (20 * l + 3) (B (20 * l + 3))) (20 * l + 4) (B (20 * l + 4))) (20 * l + 5) (B (20 * l + 5))) (20 * l + 6) (B (20 * l + 6))) (20 * l + 7) (B (20 * l + 7))) (20 * l + 8) (B (20 * l + 8))) (20 * l + 9) (B (20 * l + 9))) (20 * l + 10) (B (20 * l + 10))) (20 * l + 11) (B (20 * l + 11))) (20 * l + 12) (B (20 * l + 12))) (20 * l + 13) (B (20 * l + 13))) (20 * l + 14) (B (20 * l + 14))) (20 * l + 15) (B (20 * l + 15))) (20 * l + 16) (B (20 * l + 16))) (20 * l + 17) (B (20 * l + 17))) (20 * l + 18) (B (20 * l + 18))) (20 * l + 19) (B (20 * l + 19))) (20 * l + 20) (B (20 * l + 20)) = cp A B (20 * l + 1) (20 * l + 21) := by
  have h := cp_nil A B (20 * l + 1)
  conv => lhs; rw [← h]
  rw [cp_upd A B (20 * l + 1) (20 * l + 1) (by omega)]
  rw [cp_upd A B (20 * l + 1) (20 * l + 2) (by omega)]
  rw [cp_upd A B (20 * l + 1) (20 * l + 3) (by omega)]
  rw [cp_upd A B (20 * l + 1) (20 * l + 4) (by omega)]
  rw [cp_upd A B (20 * l + 1) (20 * l + 5) (by omega)]
  rw [cp_upd A B (20 * l + 1) (20 * l + 6) (by omega)]
  rw [cp_upd A B (20 * l + 1) (20 * l + 7) (by omega)]
  rw [cp_upd A B (20 * l + 1) (20 * l + 8) (by omega)]
  rw [cp_upd A B (20 * l + 1) (20 * l + 9) (by omega)]
  rw [cp_upd A B (20 * l + 1) (20 * l + 10) (by omega)]
  rw [cp_upd A B (20 * l + 1) (20 * l + 11) (by omega)]
  rw [cp_upd A B (20 * l + 1) (20 * l + 12) (by omega)]
  rw [cp_upd A B (20 * l + 1) (20 * l + 13) (by omega)]
  rw [cp_upd A B (20 * l + 1) (20 * l + 14) (by omega)]
  rw [cp_upd A B (20 * l + 1) (20 * l + 15) (by omega)]
  rw [cp_upd A B (20 * l + 1) (20 * l + 16) (by omega)]
  rw [cp_upd A B (20 * l + 1) (20 * l + 17) (by omega)]
  rw [cp_upd A B (20 * l + 1) (20 * l + 18) (by omega)]
  rw [cp_upd A B (20 * l + 1) (20 * l + 19) (by omega)]
  rw [cp_upd A B (20 * l + 1) (20 * l + 20) (by omega)]
theorem cp8 (A B : Nat → Int32) (s : Nat) : upd (upd (upd (upd (upd (upd (upd (upd (A) (101 + 8 * s + 1) (B (101 + 8 * s + 1))) (101 + 8 * s + 2) (B (101 + 8 * s + 2))) (101 + 8 * s + 3) (B (101 + 8 * s + 3))) (101 + 8 * s + 4) (B (101 + 8 * s + 4))) (101 + 8 * s + 5) (B (101 + 8 * s + 5))) (101 + 8 * s + 6) (B (101 + 8 * s + 6))) (101 + 8 * s + 7) (B (101 + 8 * s + 7))) (101 + 8 * s + 8) (B (101 + 8 * s + 8)) = cp A B (101 + 8 * s + 1) (101 + 8 * s + 9) := by
  have h := cp_nil A B (101 + 8 * s + 1)
  conv => lhs; rw [← h]
  rw [cp_upd A B (101 + 8 * s + 1) (101 + 8 * s + 1) (by omega)]
  rw [cp_upd A B (101 + 8 * s + 1) (101 + 8 * s + 2) (by omega)]
  rw [cp_upd A B (101 + 8 * s + 1) (101 + 8 * s + 3) (by omega)]
  rw [cp_upd A B (101 + 8 * s + 1) (101 + 8 * s + 4) (by omega)]
  rw [cp_upd A B (101 + 8 * s + 1) (101 + 8 * s + 5) (by omega)]
  rw [cp_upd A B (101 + 8 * s + 1) (101 + 8 * s + 6) (by omega)]
  rw [cp_upd A B (101 + 8 * s + 1) (101 + 8 * s + 7) (by omega)]
  rw [cp_upd A B (101 + 8 * s + 1) (101 + 8 * s + 8) (by omega)]
theorem ct_X3_copyFrom {ad : Nat → Nat → Nat → Nat} {o : wd_S} {a b l : Nat} (ha : a < 5) (hb : b < 5) (hab : b ≠ a) (hl : l < 5) (Z : bz (o.1 b)) : CT ad MX3_copyFrom [.ref (ad 1 a l), .ref (ad 1 b l)] o (RT none (wd_row o a (cp (o.1 a) (o.1 b) (20 * l + 1) (20 * l + 21)))) := by
  refine CT.of (L := [some (.ref (ad 1 a l)), some (.ref (ad 1 b l)), none]) rfl rfl (by decide) (Nat.le_of_ble_eq_true rfl) rfl ?_
  refine aw_aload_n (x := ad 1 a l) rfl dX3_copyFrom_0 ?_
  refine aw_aload_n (x := ad 1 b l) rfl dX3_copyFrom_1 ?_
  refine aw_geti (q := (b, 20 * l + 1)) (x := o.1 b (20 * l + 1)) (wv1 hb hl) rfl rfl flX3_26 rfl (Or.inl rfl) dX3_copyFrom_2 ?_
  refine aw_puti (q := (a, 20 * l + 1)) (wv1 ha hl) rfl fwX3_26 rfl rfl dX3_copyFrom_5 ?_
  refine aw_aload_n (x := ad 1 a l) rfl dX3_copyFrom_8 ?_
  refine aw_aload_n (x := ad 1 b l) rfl dX3_copyFrom_9 ?_
  refine aw_geti (q := (b, 20 * l + 2)) (x := o.1 b (20 * l + 2)) (wv1 hb hl) rfl (by simp [wd_get, hab]) flX3_29 rfl (Or.inl rfl) dX3_copyFrom_10 ?_
  refine aw_puti (q := (a, 20 * l + 2)) (wv1 ha hl) rfl fwX3_29 rfl rfl dX3_copyFrom_13 ?_
  refine aw_aload_n (x := ad 1 a l) rfl dX3_copyFrom_16 ?_
  refine aw_aload_n (x := ad 1 b l) rfl dX3_copyFrom_17 ?_
  refine aw_geti (q := (b, 20 * l + 3)) (x := o.1 b (20 * l + 3)) (wv1 hb hl) rfl (by simp [wd_get, hab]) flX3_36 rfl (Or.inl rfl) dX3_copyFrom_18 ?_
  refine aw_puti (q := (a, 20 * l + 3)) (wv1 ha hl) rfl fwX3_36 rfl rfl dX3_copyFrom_21 ?_
  refine aw_aload_n (x := ad 1 a l) rfl dX3_copyFrom_24 ?_
  refine aw_aload_n (x := ad 1 b l) rfl dX3_copyFrom_25 ?_
  refine aw_geti (q := (b, 20 * l + 4)) (x := o.1 b (20 * l + 4)) (wv1 hb hl) rfl (by simp [wd_get, hab]) flX3_39 rfl (Or.inl rfl) dX3_copyFrom_26 ?_
  refine aw_puti (q := (a, 20 * l + 4)) (wv1 ha hl) rfl fwX3_39 rfl rfl dX3_copyFrom_29 ?_
  refine aw_aload_n (x := ad 1 a l) rfl dX3_copyFrom_32 ?_
  refine aw_aload_n (x := ad 1 b l) rfl dX3_copyFrom_33 ?_
  refine aw_geti (q := (b, 20 * l + 5)) (x := o.1 b (20 * l + 5)) (wv1 hb hl) rfl (by simp [wd_get, hab]) flX3_42 rfl (Or.inl rfl) dX3_copyFrom_34 ?_
  refine aw_puti (q := (a, 20 * l + 5)) (wv1 ha hl) rfl fwX3_42 rfl rfl dX3_copyFrom_37 ?_
  refine aw_aload_n (x := ad 1 a l) rfl dX3_copyFrom_40 ?_
  refine aw_aload_n (x := ad 1 b l) rfl dX3_copyFrom_41 ?_
  refine aw_geti (q := (b, 20 * l + 6)) (x := o.1 b (20 * l + 6)) (wv1 hb hl) rfl (by simp [wd_get, hab]) flX3_32 rfl (Or.inr rfl) dX3_copyFrom_42 ?_
  refine aw_putz (q := (a, 20 * l + 6)) (Z.1 l hl).1 (wv1 ha hl) rfl fwX3_32 rfl rfl dX3_copyFrom_45 ?_
  refine aw_aload_n (x := ad 1 a l) rfl dX3_copyFrom_48 ?_
  refine aw_aload_n (x := ad 1 b l) rfl dX3_copyFrom_49 ?_
  refine aw_geti (q := (b, 20 * l + 7)) (x := o.1 b (20 * l + 7)) (wv1 hb hl) rfl (by simp [wd_get, hab]) flX3_45 rfl (Or.inl rfl) dX3_copyFrom_50 ?_
  refine aw_puti (q := (a, 20 * l + 7)) (wv1 ha hl) rfl fwX3_45 rfl rfl dX3_copyFrom_53 ?_
  refine aw_aload_n (x := ad 1 a l) rfl dX3_copyFrom_56 ?_
  refine aw_aload_n (x := ad 1 b l) rfl dX3_copyFrom_57 ?_
  refine aw_geti (q := (b, 20 * l + 8)) (x := o.1 b (20 * l + 8)) (wv1 hb hl) rfl (by simp [wd_get, hab]) flX3_48 rfl (Or.inr rfl) dX3_copyFrom_58 ?_
  refine aw_putz (q := (a, 20 * l + 8)) (Z.1 l hl).2 (wv1 ha hl) rfl fwX3_48 rfl rfl dX3_copyFrom_61 ?_
  refine aw_iconst (v := 1) (by decide) dX3_copyFrom_64 ?_
  refine aw_istore_n (L2 := [some (.ref (ad 1 a l)), some (.ref (ad 1 b l)), some (.int 1)]) (by decide) rfl rfl dX3_copyFrom_65 ?_
  refine aw_iload_n (x := 1) rfl dX3_copyFrom_66 ?_
  refine aw_bipush (v := 12) (by decide) dX3_copyFrom_67 ?_
  refine aw_icmp_gt (tgt := 90) (by decide) dX3_copyFrom_69 (fun z => absurd z (by decide)) (fun _ => ?_)
  refine aw_aload_n (x := ad 1 a l) rfl dX3_copyFrom_72 ?_
  refine aw_getr (q := (2, a, l)) (wv1 ha hl) rfl flX3_9 rfl rfl dX3_copyFrom_73 ?_
  refine aw_iload_n (x := 1) rfl dX3_copyFrom_76 ?_
  refine aw_aload_n (x := ad 1 b l) rfl dX3_copyFrom_77 ?_
  refine aw_getr (q := (2, b, l)) (wv1 hb hl) rfl flX3_9 rfl rfl dX3_copyFrom_78 ?_
  refine aw_iload_n (x := 1) rfl dX3_copyFrom_81 ?_
  refine aw_ild (x := 1) (q := (b, 20 * l + 8 + 1)) (y := o.1 b (20 * l + 8 + 1)) (by decide) (wv2 (j := b) (i := l) (by omega) (by omega)) rfl (by simp [wd_get, hab]) (Nat.le_of_ble_eq_true rfl) rfl dX3_copyFrom_82 ?_
  refine aw_ist (x := 1) (q := (a, 20 * l + 8 + 1)) (y := o.1 b (20 * l + 8 + 1)) (by decide) (wv2 (j := a) (i := l) (by omega) (by omega)) rfl (Nat.le_of_ble_eq_true rfl) rfl dX3_copyFrom_83 ?_
  refine aw_iinc (n := 1) (x := 1) (v := 2) (L2 := [some (.ref (ad 1 a l)), some (.ref (ad 1 b l)), some (.int 2)]) rfl (by decide) (by decide) rfl rfl dX3_copyFrom_84 ?_
  refine aw_goto (tgt := 66) (by decide) dX3_copyFrom_87 ?_
  refine aw_iload_n (x := 2) rfl dX3_copyFrom_66 ?_
  refine aw_bipush (v := 12) (by decide) dX3_copyFrom_67 ?_
  refine aw_icmp_gt (tgt := 90) (by decide) dX3_copyFrom_69 (fun z => absurd z (by decide)) (fun _ => ?_)
  refine aw_aload_n (x := ad 1 a l) rfl dX3_copyFrom_72 ?_
  refine aw_getr (q := (2, a, l)) (wv1 ha hl) rfl flX3_9 rfl rfl dX3_copyFrom_73 ?_
  refine aw_iload_n (x := 2) rfl dX3_copyFrom_76 ?_
  refine aw_aload_n (x := ad 1 b l) rfl dX3_copyFrom_77 ?_
  refine aw_getr (q := (2, b, l)) (wv1 hb hl) rfl flX3_9 rfl rfl dX3_copyFrom_78 ?_
  refine aw_iload_n (x := 2) rfl dX3_copyFrom_81 ?_
  refine aw_ild (x := 2) (q := (b, 20 * l + 8 + 2)) (y := o.1 b (20 * l + 8 + 2)) (by decide) (wv2 (j := b) (i := l) (by omega) (by omega)) rfl (by simp [wd_get, hab]) (Nat.le_of_ble_eq_true rfl) rfl dX3_copyFrom_82 ?_
  refine aw_ist (x := 2) (q := (a, 20 * l + 8 + 2)) (y := o.1 b (20 * l + 8 + 2)) (by decide) (wv2 (j := a) (i := l) (by omega) (by omega)) rfl (Nat.le_of_ble_eq_true rfl) rfl dX3_copyFrom_83 ?_
  refine aw_iinc (n := 1) (x := 2) (v := 3) (L2 := [some (.ref (ad 1 a l)), some (.ref (ad 1 b l)), some (.int 3)]) rfl (by decide) (by decide) rfl rfl dX3_copyFrom_84 ?_
  refine aw_goto (tgt := 66) (by decide) dX3_copyFrom_87 ?_
  refine aw_iload_n (x := 3) rfl dX3_copyFrom_66 ?_
  refine aw_bipush (v := 12) (by decide) dX3_copyFrom_67 ?_
  refine aw_icmp_gt (tgt := 90) (by decide) dX3_copyFrom_69 (fun z => absurd z (by decide)) (fun _ => ?_)
  refine aw_aload_n (x := ad 1 a l) rfl dX3_copyFrom_72 ?_
  refine aw_getr (q := (2, a, l)) (wv1 ha hl) rfl flX3_9 rfl rfl dX3_copyFrom_73 ?_
  refine aw_iload_n (x := 3) rfl dX3_copyFrom_76 ?_
  refine aw_aload_n (x := ad 1 b l) rfl dX3_copyFrom_77 ?_
  refine aw_getr (q := (2, b, l)) (wv1 hb hl) rfl flX3_9 rfl rfl dX3_copyFrom_78 ?_
  refine aw_iload_n (x := 3) rfl dX3_copyFrom_81 ?_
  refine aw_ild (x := 3) (q := (b, 20 * l + 8 + 3)) (y := o.1 b (20 * l + 8 + 3)) (by decide) (wv2 (j := b) (i := l) (by omega) (by omega)) rfl (by simp [wd_get, hab]) (Nat.le_of_ble_eq_true rfl) rfl dX3_copyFrom_82 ?_
  refine aw_ist (x := 3) (q := (a, 20 * l + 8 + 3)) (y := o.1 b (20 * l + 8 + 3)) (by decide) (wv2 (j := a) (i := l) (by omega) (by omega)) rfl (Nat.le_of_ble_eq_true rfl) rfl dX3_copyFrom_83 ?_
  refine aw_iinc (n := 1) (x := 3) (v := 4) (L2 := [some (.ref (ad 1 a l)), some (.ref (ad 1 b l)), some (.int 4)]) rfl (by decide) (by decide) rfl rfl dX3_copyFrom_84 ?_
  refine aw_goto (tgt := 66) (by decide) dX3_copyFrom_87 ?_
  refine aw_iload_n (x := 4) rfl dX3_copyFrom_66 ?_
  refine aw_bipush (v := 12) (by decide) dX3_copyFrom_67 ?_
  refine aw_icmp_gt (tgt := 90) (by decide) dX3_copyFrom_69 (fun z => absurd z (by decide)) (fun _ => ?_)
  refine aw_aload_n (x := ad 1 a l) rfl dX3_copyFrom_72 ?_
  refine aw_getr (q := (2, a, l)) (wv1 ha hl) rfl flX3_9 rfl rfl dX3_copyFrom_73 ?_
  refine aw_iload_n (x := 4) rfl dX3_copyFrom_76 ?_
  refine aw_aload_n (x := ad 1 b l) rfl dX3_copyFrom_77 ?_
  refine aw_getr (q := (2, b, l)) (wv1 hb hl) rfl flX3_9 rfl rfl dX3_copyFrom_78 ?_
  refine aw_iload_n (x := 4) rfl dX3_copyFrom_81 ?_
  refine aw_ild (x := 4) (q := (b, 20 * l + 8 + 4)) (y := o.1 b (20 * l + 8 + 4)) (by decide) (wv2 (j := b) (i := l) (by omega) (by omega)) rfl (by simp [wd_get, hab]) (Nat.le_of_ble_eq_true rfl) rfl dX3_copyFrom_82 ?_
  refine aw_ist (x := 4) (q := (a, 20 * l + 8 + 4)) (y := o.1 b (20 * l + 8 + 4)) (by decide) (wv2 (j := a) (i := l) (by omega) (by omega)) rfl (Nat.le_of_ble_eq_true rfl) rfl dX3_copyFrom_83 ?_
  refine aw_iinc (n := 1) (x := 4) (v := 5) (L2 := [some (.ref (ad 1 a l)), some (.ref (ad 1 b l)), some (.int 5)]) rfl (by decide) (by decide) rfl rfl dX3_copyFrom_84 ?_
  refine aw_goto (tgt := 66) (by decide) dX3_copyFrom_87 ?_
  refine aw_iload_n (x := 5) rfl dX3_copyFrom_66 ?_
  refine aw_bipush (v := 12) (by decide) dX3_copyFrom_67 ?_
  refine aw_icmp_gt (tgt := 90) (by decide) dX3_copyFrom_69 (fun z => absurd z (by decide)) (fun _ => ?_)
  refine aw_aload_n (x := ad 1 a l) rfl dX3_copyFrom_72 ?_
  refine aw_getr (q := (2, a, l)) (wv1 ha hl) rfl flX3_9 rfl rfl dX3_copyFrom_73 ?_
  refine aw_iload_n (x := 5) rfl dX3_copyFrom_76 ?_
  refine aw_aload_n (x := ad 1 b l) rfl dX3_copyFrom_77 ?_
  refine aw_getr (q := (2, b, l)) (wv1 hb hl) rfl flX3_9 rfl rfl dX3_copyFrom_78 ?_
  refine aw_iload_n (x := 5) rfl dX3_copyFrom_81 ?_
  refine aw_ild (x := 5) (q := (b, 20 * l + 8 + 5)) (y := o.1 b (20 * l + 8 + 5)) (by decide) (wv2 (j := b) (i := l) (by omega) (by omega)) rfl (by simp [wd_get, hab]) (Nat.le_of_ble_eq_true rfl) rfl dX3_copyFrom_82 ?_
  refine aw_ist (x := 5) (q := (a, 20 * l + 8 + 5)) (y := o.1 b (20 * l + 8 + 5)) (by decide) (wv2 (j := a) (i := l) (by omega) (by omega)) rfl (Nat.le_of_ble_eq_true rfl) rfl dX3_copyFrom_83 ?_
  refine aw_iinc (n := 1) (x := 5) (v := 6) (L2 := [some (.ref (ad 1 a l)), some (.ref (ad 1 b l)), some (.int 6)]) rfl (by decide) (by decide) rfl rfl dX3_copyFrom_84 ?_
  refine aw_goto (tgt := 66) (by decide) dX3_copyFrom_87 ?_
  refine aw_iload_n (x := 6) rfl dX3_copyFrom_66 ?_
  refine aw_bipush (v := 12) (by decide) dX3_copyFrom_67 ?_
  refine aw_icmp_gt (tgt := 90) (by decide) dX3_copyFrom_69 (fun z => absurd z (by decide)) (fun _ => ?_)
  refine aw_aload_n (x := ad 1 a l) rfl dX3_copyFrom_72 ?_
  refine aw_getr (q := (2, a, l)) (wv1 ha hl) rfl flX3_9 rfl rfl dX3_copyFrom_73 ?_
  refine aw_iload_n (x := 6) rfl dX3_copyFrom_76 ?_
  refine aw_aload_n (x := ad 1 b l) rfl dX3_copyFrom_77 ?_
  refine aw_getr (q := (2, b, l)) (wv1 hb hl) rfl flX3_9 rfl rfl dX3_copyFrom_78 ?_
  refine aw_iload_n (x := 6) rfl dX3_copyFrom_81 ?_
  refine aw_ild (x := 6) (q := (b, 20 * l + 8 + 6)) (y := o.1 b (20 * l + 8 + 6)) (by decide) (wv2 (j := b) (i := l) (by omega) (by omega)) rfl (by simp [wd_get, hab]) (Nat.le_of_ble_eq_true rfl) rfl dX3_copyFrom_82 ?_
  refine aw_ist (x := 6) (q := (a, 20 * l + 8 + 6)) (y := o.1 b (20 * l + 8 + 6)) (by decide) (wv2 (j := a) (i := l) (by omega) (by omega)) rfl (Nat.le_of_ble_eq_true rfl) rfl dX3_copyFrom_83 ?_
  refine aw_iinc (n := 1) (x := 6) (v := 7) (L2 := [some (.ref (ad 1 a l)), some (.ref (ad 1 b l)), some (.int 7)]) rfl (by decide) (by decide) rfl rfl dX3_copyFrom_84 ?_
  refine aw_goto (tgt := 66) (by decide) dX3_copyFrom_87 ?_
  refine aw_iload_n (x := 7) rfl dX3_copyFrom_66 ?_
  refine aw_bipush (v := 12) (by decide) dX3_copyFrom_67 ?_
  refine aw_icmp_gt (tgt := 90) (by decide) dX3_copyFrom_69 (fun z => absurd z (by decide)) (fun _ => ?_)
  refine aw_aload_n (x := ad 1 a l) rfl dX3_copyFrom_72 ?_
  refine aw_getr (q := (2, a, l)) (wv1 ha hl) rfl flX3_9 rfl rfl dX3_copyFrom_73 ?_
  refine aw_iload_n (x := 7) rfl dX3_copyFrom_76 ?_
  refine aw_aload_n (x := ad 1 b l) rfl dX3_copyFrom_77 ?_
  refine aw_getr (q := (2, b, l)) (wv1 hb hl) rfl flX3_9 rfl rfl dX3_copyFrom_78 ?_
  refine aw_iload_n (x := 7) rfl dX3_copyFrom_81 ?_
  refine aw_ild (x := 7) (q := (b, 20 * l + 8 + 7)) (y := o.1 b (20 * l + 8 + 7)) (by decide) (wv2 (j := b) (i := l) (by omega) (by omega)) rfl (by simp [wd_get, hab]) (Nat.le_of_ble_eq_true rfl) rfl dX3_copyFrom_82 ?_
  refine aw_ist (x := 7) (q := (a, 20 * l + 8 + 7)) (y := o.1 b (20 * l + 8 + 7)) (by decide) (wv2 (j := a) (i := l) (by omega) (by omega)) rfl (Nat.le_of_ble_eq_true rfl) rfl dX3_copyFrom_83 ?_
  refine aw_iinc (n := 1) (x := 7) (v := 8) (L2 := [some (.ref (ad 1 a l)), some (.ref (ad 1 b l)), some (.int 8)]) rfl (by decide) (by decide) rfl rfl dX3_copyFrom_84 ?_
  refine aw_goto (tgt := 66) (by decide) dX3_copyFrom_87 ?_
  refine aw_iload_n (x := 8) rfl dX3_copyFrom_66 ?_
  refine aw_bipush (v := 12) (by decide) dX3_copyFrom_67 ?_
  refine aw_icmp_gt (tgt := 90) (by decide) dX3_copyFrom_69 (fun z => absurd z (by decide)) (fun _ => ?_)
  refine aw_aload_n (x := ad 1 a l) rfl dX3_copyFrom_72 ?_
  refine aw_getr (q := (2, a, l)) (wv1 ha hl) rfl flX3_9 rfl rfl dX3_copyFrom_73 ?_
  refine aw_iload_n (x := 8) rfl dX3_copyFrom_76 ?_
  refine aw_aload_n (x := ad 1 b l) rfl dX3_copyFrom_77 ?_
  refine aw_getr (q := (2, b, l)) (wv1 hb hl) rfl flX3_9 rfl rfl dX3_copyFrom_78 ?_
  refine aw_iload_n (x := 8) rfl dX3_copyFrom_81 ?_
  refine aw_ild (x := 8) (q := (b, 20 * l + 8 + 8)) (y := o.1 b (20 * l + 8 + 8)) (by decide) (wv2 (j := b) (i := l) (by omega) (by omega)) rfl (by simp [wd_get, hab]) (Nat.le_of_ble_eq_true rfl) rfl dX3_copyFrom_82 ?_
  refine aw_ist (x := 8) (q := (a, 20 * l + 8 + 8)) (y := o.1 b (20 * l + 8 + 8)) (by decide) (wv2 (j := a) (i := l) (by omega) (by omega)) rfl (Nat.le_of_ble_eq_true rfl) rfl dX3_copyFrom_83 ?_
  refine aw_iinc (n := 1) (x := 8) (v := 9) (L2 := [some (.ref (ad 1 a l)), some (.ref (ad 1 b l)), some (.int 9)]) rfl (by decide) (by decide) rfl rfl dX3_copyFrom_84 ?_
  refine aw_goto (tgt := 66) (by decide) dX3_copyFrom_87 ?_
  refine aw_iload_n (x := 9) rfl dX3_copyFrom_66 ?_
  refine aw_bipush (v := 12) (by decide) dX3_copyFrom_67 ?_
  refine aw_icmp_gt (tgt := 90) (by decide) dX3_copyFrom_69 (fun z => absurd z (by decide)) (fun _ => ?_)
  refine aw_aload_n (x := ad 1 a l) rfl dX3_copyFrom_72 ?_
  refine aw_getr (q := (2, a, l)) (wv1 ha hl) rfl flX3_9 rfl rfl dX3_copyFrom_73 ?_
  refine aw_iload_n (x := 9) rfl dX3_copyFrom_76 ?_
  refine aw_aload_n (x := ad 1 b l) rfl dX3_copyFrom_77 ?_
  refine aw_getr (q := (2, b, l)) (wv1 hb hl) rfl flX3_9 rfl rfl dX3_copyFrom_78 ?_
  refine aw_iload_n (x := 9) rfl dX3_copyFrom_81 ?_
  refine aw_ild (x := 9) (q := (b, 20 * l + 8 + 9)) (y := o.1 b (20 * l + 8 + 9)) (by decide) (wv2 (j := b) (i := l) (by omega) (by omega)) rfl (by simp [wd_get, hab]) (Nat.le_of_ble_eq_true rfl) rfl dX3_copyFrom_82 ?_
  refine aw_ist (x := 9) (q := (a, 20 * l + 8 + 9)) (y := o.1 b (20 * l + 8 + 9)) (by decide) (wv2 (j := a) (i := l) (by omega) (by omega)) rfl (Nat.le_of_ble_eq_true rfl) rfl dX3_copyFrom_83 ?_
  refine aw_iinc (n := 1) (x := 9) (v := 10) (L2 := [some (.ref (ad 1 a l)), some (.ref (ad 1 b l)), some (.int 10)]) rfl (by decide) (by decide) rfl rfl dX3_copyFrom_84 ?_
  refine aw_goto (tgt := 66) (by decide) dX3_copyFrom_87 ?_
  refine aw_iload_n (x := 10) rfl dX3_copyFrom_66 ?_
  refine aw_bipush (v := 12) (by decide) dX3_copyFrom_67 ?_
  refine aw_icmp_gt (tgt := 90) (by decide) dX3_copyFrom_69 (fun z => absurd z (by decide)) (fun _ => ?_)
  refine aw_aload_n (x := ad 1 a l) rfl dX3_copyFrom_72 ?_
  refine aw_getr (q := (2, a, l)) (wv1 ha hl) rfl flX3_9 rfl rfl dX3_copyFrom_73 ?_
  refine aw_iload_n (x := 10) rfl dX3_copyFrom_76 ?_
  refine aw_aload_n (x := ad 1 b l) rfl dX3_copyFrom_77 ?_
  refine aw_getr (q := (2, b, l)) (wv1 hb hl) rfl flX3_9 rfl rfl dX3_copyFrom_78 ?_
  refine aw_iload_n (x := 10) rfl dX3_copyFrom_81 ?_
  refine aw_ild (x := 10) (q := (b, 20 * l + 8 + 10)) (y := o.1 b (20 * l + 8 + 10)) (by decide) (wv2 (j := b) (i := l) (by omega) (by omega)) rfl (by simp [wd_get, hab]) (Nat.le_of_ble_eq_true rfl) rfl dX3_copyFrom_82 ?_
  refine aw_ist (x := 10) (q := (a, 20 * l + 8 + 10)) (y := o.1 b (20 * l + 8 + 10)) (by decide) (wv2 (j := a) (i := l) (by omega) (by omega)) rfl (Nat.le_of_ble_eq_true rfl) rfl dX3_copyFrom_83 ?_
  refine aw_iinc (n := 1) (x := 10) (v := 11) (L2 := [some (.ref (ad 1 a l)), some (.ref (ad 1 b l)), some (.int 11)]) rfl (by decide) (by decide) rfl rfl dX3_copyFrom_84 ?_
  refine aw_goto (tgt := 66) (by decide) dX3_copyFrom_87 ?_
  refine aw_iload_n (x := 11) rfl dX3_copyFrom_66 ?_
  refine aw_bipush (v := 12) (by decide) dX3_copyFrom_67 ?_
  refine aw_icmp_gt (tgt := 90) (by decide) dX3_copyFrom_69 (fun z => absurd z (by decide)) (fun _ => ?_)
  refine aw_aload_n (x := ad 1 a l) rfl dX3_copyFrom_72 ?_
  refine aw_getr (q := (2, a, l)) (wv1 ha hl) rfl flX3_9 rfl rfl dX3_copyFrom_73 ?_
  refine aw_iload_n (x := 11) rfl dX3_copyFrom_76 ?_
  refine aw_aload_n (x := ad 1 b l) rfl dX3_copyFrom_77 ?_
  refine aw_getr (q := (2, b, l)) (wv1 hb hl) rfl flX3_9 rfl rfl dX3_copyFrom_78 ?_
  refine aw_iload_n (x := 11) rfl dX3_copyFrom_81 ?_
  refine aw_ild (x := 11) (q := (b, 20 * l + 8 + 11)) (y := o.1 b (20 * l + 8 + 11)) (by decide) (wv2 (j := b) (i := l) (by omega) (by omega)) rfl (by simp [wd_get, hab]) (Nat.le_of_ble_eq_true rfl) rfl dX3_copyFrom_82 ?_
  refine aw_ist (x := 11) (q := (a, 20 * l + 8 + 11)) (y := o.1 b (20 * l + 8 + 11)) (by decide) (wv2 (j := a) (i := l) (by omega) (by omega)) rfl (Nat.le_of_ble_eq_true rfl) rfl dX3_copyFrom_83 ?_
  refine aw_iinc (n := 1) (x := 11) (v := 12) (L2 := [some (.ref (ad 1 a l)), some (.ref (ad 1 b l)), some (.int 12)]) rfl (by decide) (by decide) rfl rfl dX3_copyFrom_84 ?_
  refine aw_goto (tgt := 66) (by decide) dX3_copyFrom_87 ?_
  refine aw_iload_n (x := 12) rfl dX3_copyFrom_66 ?_
  refine aw_bipush (v := 12) (by decide) dX3_copyFrom_67 ?_
  refine aw_icmp_gt (tgt := 90) (by decide) dX3_copyFrom_69 (fun z => absurd z (by decide)) (fun _ => ?_)
  refine aw_aload_n (x := ad 1 a l) rfl dX3_copyFrom_72 ?_
  refine aw_getr (q := (2, a, l)) (wv1 ha hl) rfl flX3_9 rfl rfl dX3_copyFrom_73 ?_
  refine aw_iload_n (x := 12) rfl dX3_copyFrom_76 ?_
  refine aw_aload_n (x := ad 1 b l) rfl dX3_copyFrom_77 ?_
  refine aw_getr (q := (2, b, l)) (wv1 hb hl) rfl flX3_9 rfl rfl dX3_copyFrom_78 ?_
  refine aw_iload_n (x := 12) rfl dX3_copyFrom_81 ?_
  refine aw_ild (x := 12) (q := (b, 20 * l + 8 + 12)) (y := o.1 b (20 * l + 8 + 12)) (by decide) (wv2 (j := b) (i := l) (by omega) (by omega)) rfl (by simp [wd_get, hab]) (Nat.le_of_ble_eq_true rfl) rfl dX3_copyFrom_82 ?_
  refine aw_ist (x := 12) (q := (a, 20 * l + 8 + 12)) (y := o.1 b (20 * l + 8 + 12)) (by decide) (wv2 (j := a) (i := l) (by omega) (by omega)) rfl (Nat.le_of_ble_eq_true rfl) rfl dX3_copyFrom_83 ?_
  refine aw_iinc (n := 1) (x := 12) (v := 13) (L2 := [some (.ref (ad 1 a l)), some (.ref (ad 1 b l)), some (.int 13)]) rfl (by decide) (by decide) rfl rfl dX3_copyFrom_84 ?_
  refine aw_goto (tgt := 66) (by decide) dX3_copyFrom_87 ?_
  refine aw_iload_n (x := 13) rfl dX3_copyFrom_66 ?_
  refine aw_bipush (v := 12) (by decide) dX3_copyFrom_67 ?_
  refine aw_icmp_gt (tgt := 90) (by decide) dX3_copyFrom_69 (fun _ => ?_) (fun z => absurd z (by decide))
  exact aw_vret rfl (by decide) (by decide) dX3_copyFrom_90 ⟨rfl, by rw [← cp20]; simp only [wd_w_row, row_self, row_row, row_ne _ _ hab, Nat.add_assoc, Nat.reduceAdd]⟩
theorem ct_X6_copyFrom {ad : Nat → Nat → Nat → Nat} {o : wd_S} {a b s : Nat} (ha : a < 5) (hb : b < 5) (hab : b ≠ a) (hs : s < 16) (Z : bz (o.1 b)) : CT ad MX6_copyFrom [.ref (ad 3 a s), .ref (ad 3 b s)] o (RT none (wd_row o a (cp (o.1 a) (o.1 b) (101 + 8 * s + 1) (101 + 8 * s + 9)))) := by
  refine CT.of (L := [some (.ref (ad 3 a s)), some (.ref (ad 3 b s))]) rfl rfl (by decide) (Nat.le_of_ble_eq_true rfl) rfl ?_
  refine aw_aload_n (x := ad 3 a s) rfl dX6_copyFrom_0 ?_
  refine aw_aload_n (x := ad 3 b s) rfl dX6_copyFrom_1 ?_
  refine aw_geti (q := (b, 101 + 8 * s + 1)) (x := o.1 b (101 + 8 * s + 1)) (wv3 hb hs) rfl rfl flX6_13 rfl (Or.inl rfl) dX6_copyFrom_2 ?_
  refine aw_puti (q := (a, 101 + 8 * s + 1)) (wv3 ha hs) rfl fwX6_13 rfl rfl dX6_copyFrom_5 ?_
  refine aw_aload_n (x := ad 3 a s) rfl dX6_copyFrom_8 ?_
  refine aw_aload_n (x := ad 3 b s) rfl dX6_copyFrom_9 ?_
  refine aw_geti (q := (b, 101 + 8 * s + 2)) (x := o.1 b (101 + 8 * s + 2)) (wv3 hb hs) rfl (by simp [wd_get, hab]) flX6_16 rfl (Or.inl rfl) dX6_copyFrom_10 ?_
  refine aw_puti (q := (a, 101 + 8 * s + 2)) (wv3 ha hs) rfl fwX6_16 rfl rfl dX6_copyFrom_13 ?_
  refine aw_aload_n (x := ad 3 a s) rfl dX6_copyFrom_16 ?_
  refine aw_aload_n (x := ad 3 b s) rfl dX6_copyFrom_17 ?_
  refine aw_geti (q := (b, 101 + 8 * s + 3)) (x := o.1 b (101 + 8 * s + 3)) (wv3 hb hs) rfl (by simp [wd_get, hab]) flX6_19 rfl (Or.inl rfl) dX6_copyFrom_18 ?_
  refine aw_puti (q := (a, 101 + 8 * s + 3)) (wv3 ha hs) rfl fwX6_19 rfl rfl dX6_copyFrom_21 ?_
  refine aw_aload_n (x := ad 3 a s) rfl dX6_copyFrom_24 ?_
  refine aw_aload_n (x := ad 3 b s) rfl dX6_copyFrom_25 ?_
  refine aw_geti (q := (b, 101 + 8 * s + 4)) (x := o.1 b (101 + 8 * s + 4)) (wv3 hb hs) rfl (by simp [wd_get, hab]) flX6_22 rfl (Or.inr rfl) dX6_copyFrom_26 ?_
  refine aw_putz (q := (a, 101 + 8 * s + 4)) (Z.2 s hs).1 (wv3 ha hs) rfl fwX6_22 rfl rfl dX6_copyFrom_29 ?_
  refine aw_aload_n (x := ad 3 a s) rfl dX6_copyFrom_32 ?_
  refine aw_aload_n (x := ad 3 b s) rfl dX6_copyFrom_33 ?_
  refine aw_geti (q := (b, 101 + 8 * s + 5)) (x := o.1 b (101 + 8 * s + 5)) (wv3 hb hs) rfl (by simp [wd_get, hab]) flX6_26 rfl (Or.inl rfl) dX6_copyFrom_34 ?_
  refine aw_puti (q := (a, 101 + 8 * s + 5)) (wv3 ha hs) rfl fwX6_26 rfl rfl dX6_copyFrom_37 ?_
  refine aw_aload_n (x := ad 3 a s) rfl dX6_copyFrom_40 ?_
  refine aw_aload_n (x := ad 3 b s) rfl dX6_copyFrom_41 ?_
  refine aw_geti (q := (b, 101 + 8 * s + 6)) (x := o.1 b (101 + 8 * s + 6)) (wv3 hb hs) rfl (by simp [wd_get, hab]) flX6_29 rfl (Or.inr rfl) dX6_copyFrom_42 ?_
  refine aw_putz (q := (a, 101 + 8 * s + 6)) (Z.2 s hs).2.1 (wv3 ha hs) rfl fwX6_29 rfl rfl dX6_copyFrom_45 ?_
  refine aw_aload_n (x := ad 3 a s) rfl dX6_copyFrom_48 ?_
  refine aw_aload_n (x := ad 3 b s) rfl dX6_copyFrom_49 ?_
  refine aw_geti (q := (b, 101 + 8 * s + 7)) (x := o.1 b (101 + 8 * s + 7)) (wv3 hb hs) rfl (by simp [wd_get, hab]) flX6_32 rfl (Or.inr rfl) dX6_copyFrom_50 ?_
  refine aw_putz (q := (a, 101 + 8 * s + 7)) (Z.2 s hs).2.2 (wv3 ha hs) rfl fwX6_32 rfl rfl dX6_copyFrom_53 ?_
  refine aw_aload_n (x := ad 3 a s) rfl dX6_copyFrom_56 ?_
  refine aw_aload_n (x := ad 3 b s) rfl dX6_copyFrom_57 ?_
  refine aw_geti (q := (b, 101 + 8 * s + 8)) (x := o.1 b (101 + 8 * s + 8)) (wv3 hb hs) rfl (by simp [wd_get, hab]) flX6_35 rfl (Or.inl rfl) dX6_copyFrom_58 ?_
  refine aw_puti (q := (a, 101 + 8 * s + 8)) (wv3 ha hs) rfl fwX6_35 rfl rfl dX6_copyFrom_61 ?_
  exact aw_vret rfl (by decide) (by decide) dX6_copyFrom_64 ⟨rfl, by rw [← cp8]; simp only [wd_w_row, row_self, row_row, row_ne _ _ hab]⟩
theorem ct_X5_loopAt_sj {ad : Nat → Nat → Nat → Nat} {o : wd_S} {j n l : Nat} (hj : j < 5) (h0 : o.1 j 0 = nI n) (hn : n ≤ 5) (hl : l < n) : CT ad MX5_loopAt [.ref (ad 0 j 0), .int (nI l)] o (RT (some (.ref (ad 1 j l))) o) := by
  refine CT.of (L := [some (.ref (ad 0 j 0)), some (.int (nI l))]) rfl rfl (by decide) (Nat.le_of_ble_eq_true rfl) rfl ?_
  refine aw_iload_n (x := (nI l)) rfl dX5_loopAt_0 ?_
  refine aw_if_lt (tgt := 26) (by decide) dX5_loopAt_1 (fun z => absurd z (nI_pos (by omega))) (fun _ => ?_)
  refine aw_iload_n (x := (nI l)) rfl dX5_loopAt_4 ?_
  refine aw_aload_n (x := ad 0 j 0) rfl dX5_loopAt_5 ?_
  refine aw_geti (q := (j, 0)) (x := o.1 j 0) (wv0 hj) rfl rfl flX5_27 rfl (Or.inl rfl) dX5_loopAt_6 ?_
  refine aw_icmp_ge (tgt := 26) (by decide) dX5_loopAt_9 (fun z => absurd z (by rw [h0]; exact nI_ge hl (by omega))) (fun _ => ?_)
  refine aw_iload_n (x := (nI l)) rfl dX5_loopAt_12 ?_
  refine aw_iconst (v := 5) (by decide) dX5_loopAt_13 ?_
  refine aw_icmp_ge (tgt := 26) (by decide) dX5_loopAt_14 (fun z => absurd z (nI_ge (b := 5) (by omega) (by decide))) (fun _ => ?_)
  refine aw_aload_n (x := ad 0 j 0) rfl dX5_loopAt_17 ?_
  refine aw_getr (q := (5, j, 0)) (wv0 hj) rfl flX5_11 rfl rfl dX5_loopAt_18 ?_
  refine aw_iload_n (x := (nI l)) rfl dX5_loopAt_21 ?_
  refine aw_ald (x := l) (ty := 2) (q := (1, j, l)) rfl (wv5 (j := j) (by omega)) (wr5 (by omega)) (by show _ < 5; omega) rfl (by decide) (by decide) dX5_loopAt_22 ?_
  refine aw_goto (tgt := 27) (by decide) dX5_loopAt_23 ?_
  exact aw_aret rfl (Or.inr ⟨_, rfl⟩) (by decide) (by decide) dX5_loopAt_27 ⟨by first | rfl | (simp [wd_w_row, row_self, row_row]; done) | (simp_all [wd_w_row, row_self, row_row]; done), by first | rfl | (simp [wd_w_row, row_self, row_row]; done) | (simp_all [wd_w_row, row_self, row_row]; done)⟩
theorem ct_X5_loopAt_nj {ad : Nat → Nat → Nat → Nat} {o : wd_S} {j n l : Nat} (hj : j < 5) (h0 : o.1 j 0 = nI n) (hl : n ≤ l) (hl5 : l < 5) : CT ad MX5_loopAt [.ref (ad 0 j 0), .int (nI l)] o (RT (some .null) o) := by
  refine CT.of (L := [some (.ref (ad 0 j 0)), some (.int (nI l))]) rfl rfl (by decide) (Nat.le_of_ble_eq_true rfl) rfl ?_
  refine aw_iload_n (x := (nI l)) rfl dX5_loopAt_0 ?_
  refine aw_if_lt (tgt := 26) (by decide) dX5_loopAt_1 (fun z => absurd z (nI_pos (by omega))) (fun _ => ?_)
  refine aw_iload_n (x := (nI l)) rfl dX5_loopAt_4 ?_
  refine aw_aload_n (x := ad 0 j 0) rfl dX5_loopAt_5 ?_
  refine aw_geti (q := (j, 0)) (x := o.1 j 0) (wv0 hj) rfl rfl flX5_27 rfl (Or.inl rfl) dX5_loopAt_6 ?_
  refine aw_icmp_ge (tgt := 26) (by decide) dX5_loopAt_9 (fun _ => ?_) (fun z => absurd (by rw [h0]; exact nI_le hl (by omega)) z)
  refine aw_null dX5_loopAt_26 ?_
  exact aw_aret rfl (Or.inl rfl) (by decide) (by decide) dX5_loopAt_27 ⟨by first | rfl | (simp [wd_w_row, row_self, row_row]; done) | (simp_all [wd_w_row, row_self, row_row]; done), by first | rfl | (simp [wd_w_row, row_self, row_row]; done) | (simp_all [wd_w_row, row_self, row_row]; done)⟩
theorem ct_X5_subscriberAt_sj {ad : Nat → Nat → Nat → Nat} {o : wd_S} {j m s : Nat} (hj : j < 5) (h0 : o.1 j 101 = nI m) (hm : m ≤ 16) (hs : s < m) : CT ad MX5_subscriberAt [.ref (ad 0 j 0), .int (nI s)] o (RT (some (.ref (ad 3 j s))) o) := by
  refine CT.of (L := [some (.ref (ad 0 j 0)), some (.int (nI s))]) rfl rfl (by decide) (Nat.le_of_ble_eq_true rfl) rfl ?_
  refine aw_iload_n (x := (nI s)) rfl dX5_subscriberAt_0 ?_
  refine aw_if_lt (tgt := 27) (by decide) dX5_subscriberAt_1 (fun z => absurd z (nI_pos (by omega))) (fun _ => ?_)
  refine aw_iload_n (x := (nI s)) rfl dX5_subscriberAt_4 ?_
  refine aw_aload_n (x := ad 0 j 0) rfl dX5_subscriberAt_5 ?_
  refine aw_geti (q := (j, 101)) (x := o.1 j 101) (wv0 hj) rfl rfl flX5_31 rfl (Or.inl rfl) dX5_subscriberAt_6 ?_
  refine aw_icmp_ge (tgt := 27) (by decide) dX5_subscriberAt_9 (fun z => absurd z (by rw [h0]; exact nI_ge hs (by omega))) (fun _ => ?_)
  refine aw_iload_n (x := (nI s)) rfl dX5_subscriberAt_12 ?_
  refine aw_bipush (v := 16) (by decide) dX5_subscriberAt_13 ?_
  refine aw_icmp_ge (tgt := 27) (by decide) dX5_subscriberAt_15 (fun z => absurd z (nI_ge (b := 16) (by omega) (by decide))) (fun _ => ?_)
  refine aw_aload_n (x := ad 0 j 0) rfl dX5_subscriberAt_18 ?_
  refine aw_getr (q := (6, j, 0)) (wv0 hj) rfl flX5_19 rfl rfl dX5_subscriberAt_19 ?_
  refine aw_iload_n (x := (nI s)) rfl dX5_subscriberAt_22 ?_
  refine aw_ald (x := s) (ty := 3) (q := (3, j, s)) rfl (wv6 (j := j) (by omega)) (wr6 (by omega)) (by show _ < 16; omega) rfl (by decide) (by decide) dX5_subscriberAt_23 ?_
  refine aw_goto (tgt := 28) (by decide) dX5_subscriberAt_24 ?_
  exact aw_aret rfl (Or.inr ⟨_, rfl⟩) (by decide) (by decide) dX5_subscriberAt_28 ⟨by first | rfl | (simp [wd_w_row, row_self, row_row]; done) | (simp_all [wd_w_row, row_self, row_row]; done), by first | rfl | (simp [wd_w_row, row_self, row_row]; done) | (simp_all [wd_w_row, row_self, row_row]; done)⟩
theorem ct_X5_subscriberAt_nj {ad : Nat → Nat → Nat → Nat} {o : wd_S} {j m s : Nat} (hj : j < 5) (h0 : o.1 j 101 = nI m) (hs : m ≤ s) (hs16 : s < 16) : CT ad MX5_subscriberAt [.ref (ad 0 j 0), .int (nI s)] o (RT (some .null) o) := by
  refine CT.of (L := [some (.ref (ad 0 j 0)), some (.int (nI s))]) rfl rfl (by decide) (Nat.le_of_ble_eq_true rfl) rfl ?_
  refine aw_iload_n (x := (nI s)) rfl dX5_subscriberAt_0 ?_
  refine aw_if_lt (tgt := 27) (by decide) dX5_subscriberAt_1 (fun z => absurd z (nI_pos (by omega))) (fun _ => ?_)
  refine aw_iload_n (x := (nI s)) rfl dX5_subscriberAt_4 ?_
  refine aw_aload_n (x := ad 0 j 0) rfl dX5_subscriberAt_5 ?_
  refine aw_geti (q := (j, 101)) (x := o.1 j 101) (wv0 hj) rfl rfl flX5_31 rfl (Or.inl rfl) dX5_subscriberAt_6 ?_
  refine aw_icmp_ge (tgt := 27) (by decide) dX5_subscriberAt_9 (fun _ => ?_) (fun z => absurd (by rw [h0]; exact nI_le hs (by omega)) z)
  refine aw_null dX5_subscriberAt_27 ?_
  exact aw_aret rfl (Or.inl rfl) (by decide) (by decide) dX5_subscriberAt_28 ⟨by first | rfl | (simp [wd_w_row, row_self, row_row]; done) | (simp_all [wd_w_row, row_self, row_row]; done), by first | rfl | (simp [wd_w_row, row_self, row_row]; done) | (simp_all [wd_w_row, row_self, row_row]; done)⟩
theorem lp_X5_cps {ad : Nat → Nat → Nat → Nat} {a b n m : Nat} (ha : a < 5) (hb : b < 5) (hab : b ≠ a) (hn : n ≤ 5) (hm : m ≤ 16) : ∀ (k i : Nat) (o : wd_S) , i + k = 16 → (bz (o.1 b)) → (o.1 a 101 = nI m) → (o.1 b 101 = nI m) → AW ad MX5_copyFrom 93 [some (.ref (ad 0 a 0)), some (.ref (ad 0 b 0)), some (.int (nI i)), none, none] [] o 0 0 (RT none (wd_row o a (cp (o.1 a) (o.1 b) (101 + 8 * (i) + 1) (101 + 8 * m + 1)))) := by
  intro k
  induction k with
  | zero =>
    intro i o hk Z hA hB
    have hi : i = 16 := by omega
    subst hi
    refine aw_iload_n (x := (nI 16)) rfl dX5_copyFrom_93 ?_
    refine aw_bipush (v := 16) (by decide) dX5_copyFrom_94 ?_
    refine aw_icmp_ge (tgt := 133) (by decide) dX5_copyFrom_96 (fun _ => ?_) (fun z => absurd (by decide) z)
    exact aw_vret rfl (by decide) (by decide) dX5_copyFrom_133 ⟨rfl, by rw [cp_ge _ _ (by omega), row_id]⟩
  | succ k ih =>
    intro i o hk Z hA hB
    have hi : i < 16 := by omega
    refine aw_iload_n (x := (nI i)) rfl dX5_copyFrom_93 ?_
    refine aw_bipush (v := 16) (by decide) dX5_copyFrom_94 ?_
    refine aw_icmp_ge (tgt := 133) (by decide) dX5_copyFrom_96 (fun z => absurd z (nI_ge (b := 16) hi (by decide))) (fun _ => ?_)
    refine aw_aload_n (x := ad 0 a 0) rfl dX5_copyFrom_99 ?_
    refine aw_iload_n (x := (nI i)) rfl dX5_copyFrom_100 ?_
    by_cases q1 : i < m
    · skip
      refine aw_rV (As := [.int (nI i)]) (S := []) (v := some (.ref (ad 3 a i))) (o2 := o) (ct_X5_subscriberAt_sj ha hA hm q1) (mm_fit_of cbX5_subscriberAt (by decide) (by decide)) wq279 cvX5_subscriberAt (wv0 ha) rfl rfl rfl (Nat.le_of_ble_eq_true rfl) (by decide) (by decide) rfl dX5_copyFrom_101 ?_
      refine aw_astore_n (L2 := [some (.ref (ad 0 a 0)), some (.ref (ad 0 b 0)), some (.int (nI i)), some (.ref (ad 3 a i)), none]) (by decide) rfl rfl dX5_copyFrom_104 ?_
      refine aw_aload_n (x := ad 0 b 0) rfl dX5_copyFrom_105 ?_
      refine aw_iload_n (x := (nI i)) rfl dX5_copyFrom_106 ?_
      refine aw_rV (As := [.int (nI i)]) (S := []) (v := some (.ref (ad 3 b i))) (o2 := o) (ct_X5_subscriberAt_sj hb hB hm q1) (mm_fit_of cbX5_subscriberAt (by decide) (by decide)) wq279 cvX5_subscriberAt (wv0 hb) rfl rfl rfl (Nat.le_of_ble_eq_true rfl) (by decide) (by decide) rfl dX5_copyFrom_107 ?_
      refine aw_astore (L2 := [some (.ref (ad 0 a 0)), some (.ref (ad 0 b 0)), some (.int (nI i)), some (.ref (ad 3 a i)), some (.ref (ad 3 b i))]) (by decide) rfl rfl dX5_copyFrom_110 ?_
      refine aw_aload_n (x := ad 3 a i) rfl dX5_copyFrom_112 ?_
      refine aw_ifnull dX5_copyFrom_113 ?_
      refine aw_aload (x := ad 3 b i) rfl dX5_copyFrom_116 ?_
      refine aw_ifnull dX5_copyFrom_118 ?_
      refine aw_aload_n (x := ad 3 a i) rfl dX5_copyFrom_121 ?_
      refine aw_aload (x := ad 3 b i) rfl dX5_copyFrom_122 ?_
      refine aw_rV (As := [.ref (ad 3 b i)]) (S := []) (v := none) (o2 := (wd_row o a (cp (o.1 a) (o.1 b) (101 + 8 * i + 1) (101 + 8 * i + 9)))) (ct_X6_copyFrom ha hb hab (by omega) Z) (mm_fit_of cbX6_copyFrom (by decide) (by decide)) wq443 cvX6_copyFrom (wv3 ha (by omega)) rfl rfl rfl (Nat.le_of_ble_eq_true rfl) (by decide) (by decide) rfl dX5_copyFrom_124 ?_
      refine aw_iinc (n := 1) (x := (nI i)) (v := nI (i + 1)) (L2 := [some (.ref (ad 0 a 0)), some (.ref (ad 0 b 0)), some (.int (nI (i + 1))), some (.ref (ad 3 a i)), some (.ref (ad 3 b i))]) rfl (nI_1 i) (by decide) rfl rfl dX5_copyFrom_127 ?_
      refine aw_goto (tgt := 93) (by decide) dX5_copyFrom_130 ?_
      have e9 : (RT none (wd_row o a (cp (o.1 a) (o.1 b) (101 + 8 * (i) + 1) (101 + 8 * m + 1)))) = (RT none (wd_row (wd_row o a (cp (o.1 a) (o.1 b) (101 + 8 * i + 1) (101 + 8 * i + 9))) a (cp ((wd_row o a (cp (o.1 a) (o.1 b) (101 + 8 * i + 1) (101 + 8 * i + 9))).1 a) ((wd_row o a (cp (o.1 a) (o.1 b) (101 + 8 * i + 1) (101 + 8 * i + 9))).1 b) (101 + 8 * (i + 1) + 1) (101 + 8 * m + 1)))) := by first | rw [row_self, row_ne _ _ hab, row_row, show 101 + 8 * i + 9 = 101 + 8 * (i + 1) + 1 by omega, cp_cp _ _ (by omega) (by omega)] | rw [cp_ge _ _ (show 101 + 8 * m + 1 ≤ 101 + 8 * i + 1 by omega), cp_ge _ _ (show 101 + 8 * m + 1 ≤ 101 + 8 * (i + 1) + 1 by omega)]
      rw [e9]
      exact AW.locs (ih (i + 1) (wd_row o a (cp (o.1 a) (o.1 b) (101 + 8 * i + 1) (101 + 8 * i + 9)))  (by omega) (by rw [row_ne _ _ hab]; exact Z) (by rw [row_self]; unfold cp; rw [if_neg (by omega)]; exact hA) (by rw [row_ne _ _ hab]; exact hB)) (lsub_keep (lsub_keep (lsub_keep (lsub_none (lsub_none lsub_nil)))))
    · skip
      refine aw_rV (As := [.int (nI i)]) (S := []) (v := some (.null)) (o2 := o) (ct_X5_subscriberAt_nj ha hA (by omega) (by omega)) (mm_fit_of cbX5_subscriberAt (by decide) (by decide)) wq279 cvX5_subscriberAt (wv0 ha) rfl rfl rfl (Nat.le_of_ble_eq_true rfl) (by decide) (by decide) rfl dX5_copyFrom_101 ?_
      refine aw_astore_nN (L2 := [some (.ref (ad 0 a 0)), some (.ref (ad 0 b 0)), some (.int (nI i)), some (.null), none]) (by decide) rfl rfl dX5_copyFrom_104 ?_
      refine aw_aload_n (x := ad 0 b 0) rfl dX5_copyFrom_105 ?_
      refine aw_iload_n (x := (nI i)) rfl dX5_copyFrom_106 ?_
      refine aw_rV (As := [.int (nI i)]) (S := []) (v := some (.null)) (o2 := o) (ct_X5_subscriberAt_nj hb hB (by omega) (by omega)) (mm_fit_of cbX5_subscriberAt (by decide) (by decide)) wq279 cvX5_subscriberAt (wv0 hb) rfl rfl rfl (Nat.le_of_ble_eq_true rfl) (by decide) (by decide) rfl dX5_copyFrom_107 ?_
      refine aw_astoreN (L2 := [some (.ref (ad 0 a 0)), some (.ref (ad 0 b 0)), some (.int (nI i)), some (.null), some (.null)]) (by decide) rfl rfl dX5_copyFrom_110 ?_
      refine aw_aload_nN rfl dX5_copyFrom_112 ?_
      refine aw_ifnullN (tgt := 127) (by decide) dX5_copyFrom_113 ?_
      refine aw_iinc (n := 1) (x := (nI i)) (v := nI (i + 1)) (L2 := [some (.ref (ad 0 a 0)), some (.ref (ad 0 b 0)), some (.int (nI (i + 1))), some (.null), some (.null)]) rfl (nI_1 i) (by decide) rfl rfl dX5_copyFrom_127 ?_
      refine aw_goto (tgt := 93) (by decide) dX5_copyFrom_130 ?_
      have e9 : (RT none (wd_row o a (cp (o.1 a) (o.1 b) (101 + 8 * (i) + 1) (101 + 8 * m + 1)))) = (RT none (wd_row o a (cp (o.1 a) (o.1 b) (101 + 8 * (i + 1) + 1) (101 + 8 * m + 1)))) := by first | rw [row_self, row_ne _ _ hab, row_row, show 101 + 8 * i + 9 = 101 + 8 * (i + 1) + 1 by omega, cp_cp _ _ (by omega) (by omega)] | rw [cp_ge _ _ (show 101 + 8 * m + 1 ≤ 101 + 8 * i + 1 by omega), cp_ge _ _ (show 101 + 8 * m + 1 ≤ 101 + 8 * (i + 1) + 1 by omega)]
      rw [e9]
      exact AW.locs (ih (i + 1) o  (by omega) Z hA hB) (lsub_keep (lsub_keep (lsub_keep (lsub_none (lsub_none lsub_nil)))))
theorem lp_X5_cpl {ad : Nat → Nat → Nat → Nat} {a b n m : Nat} (ha : a < 5) (hb : b < 5) (hab : b ≠ a) (hn : n ≤ 5) (hm : m ≤ 16) : ∀ (k i : Nat) (o : wd_S) , i + k = 5 → (bz (o.1 b)) → (o.1 a 0 = nI n) → (o.1 b 0 = nI n) → (o.1 a 101 = nI m) → (o.1 b 101 = nI m) → AW ad MX5_copyFrom 52 [some (.ref (ad 0 a 0)), some (.ref (ad 0 b 0)), some (.int (nI i)), none, none] [] o 0 0 (RT none (wd_row o a (cp (cp (o.1 a) (o.1 b) (20 * (i) + 1) (20 * n + 1)) (o.1 b) 102 (101 + 8 * m + 1)))) := by
  intro k
  induction k with
  | zero =>
    intro i o hk Z hA hB hA1 hB1
    have hi : i = 5 := by omega
    subst hi
    refine aw_iload_n (x := (nI 5)) rfl dX5_copyFrom_52 ?_
    refine aw_iconst (v := 5) (by decide) dX5_copyFrom_53 ?_
    refine aw_icmp_ge (tgt := 91) (by decide) dX5_copyFrom_54 (fun _ => ?_) (fun z => absurd (by decide) z)
    refine aw_iconst (v := 0) (by decide) dX5_copyFrom_91 ?_
    refine aw_istore_n (L2 := [some (.ref (ad 0 a 0)), some (.ref (ad 0 b 0)), some (.int 0), none, none]) (by decide) rfl rfl dX5_copyFrom_92 ?_
    exact AW.post (lp_X5_cps ha hb hab hn hm 16 0 o (by decide) Z hA1 hB1) (fun r o2 q => by rw [cp_ge (o.1 a) (o.1 b) (show 20 * n + 1 ≤ 20 * 5 + 1 by omega)]; exact q)
  | succ k ih =>
    intro i o hk Z hA hB hA1 hB1
    have hi : i < 5 := by omega
    refine aw_iload_n (x := (nI i)) rfl dX5_copyFrom_52 ?_
    refine aw_iconst (v := 5) (by decide) dX5_copyFrom_53 ?_
    refine aw_icmp_ge (tgt := 91) (by decide) dX5_copyFrom_54 (fun z => absurd z (nI_ge (b := 5) hi (by decide))) (fun _ => ?_)
    refine aw_aload_n (x := ad 0 a 0) rfl dX5_copyFrom_57 ?_
    refine aw_iload_n (x := (nI i)) rfl dX5_copyFrom_58 ?_
    by_cases q1 : i < n
    · skip
      refine aw_rV (As := [.int (nI i)]) (S := []) (v := some (.ref (ad 1 a i))) (o2 := o) (ct_X5_loopAt_sj ha hA hn q1) (mm_fit_of cbX5_loopAt (by decide) (by decide)) wq334 cvX5_loopAt (wv0 ha) rfl rfl rfl (Nat.le_of_ble_eq_true rfl) (by decide) (by decide) rfl dX5_copyFrom_59 ?_
      refine aw_astore_n (L2 := [some (.ref (ad 0 a 0)), some (.ref (ad 0 b 0)), some (.int (nI i)), some (.ref (ad 1 a i)), none]) (by decide) rfl rfl dX5_copyFrom_62 ?_
      refine aw_aload_n (x := ad 0 b 0) rfl dX5_copyFrom_63 ?_
      refine aw_iload_n (x := (nI i)) rfl dX5_copyFrom_64 ?_
      refine aw_rV (As := [.int (nI i)]) (S := []) (v := some (.ref (ad 1 b i))) (o2 := o) (ct_X5_loopAt_sj hb hB hn q1) (mm_fit_of cbX5_loopAt (by decide) (by decide)) wq334 cvX5_loopAt (wv0 hb) rfl rfl rfl (Nat.le_of_ble_eq_true rfl) (by decide) (by decide) rfl dX5_copyFrom_65 ?_
      refine aw_astore (L2 := [some (.ref (ad 0 a 0)), some (.ref (ad 0 b 0)), some (.int (nI i)), some (.ref (ad 1 a i)), some (.ref (ad 1 b i))]) (by decide) rfl rfl dX5_copyFrom_68 ?_
      refine aw_aload_n (x := ad 1 a i) rfl dX5_copyFrom_70 ?_
      refine aw_ifnull dX5_copyFrom_71 ?_
      refine aw_aload (x := ad 1 b i) rfl dX5_copyFrom_74 ?_
      refine aw_ifnull dX5_copyFrom_76 ?_
      refine aw_aload_n (x := ad 1 a i) rfl dX5_copyFrom_79 ?_
      refine aw_aload (x := ad 1 b i) rfl dX5_copyFrom_80 ?_
      refine aw_rV (As := [.ref (ad 1 b i)]) (S := []) (v := none) (o2 := (wd_row o a (cp (o.1 a) (o.1 b) (20 * i + 1) (20 * i + 21)))) (ct_X3_copyFrom ha hb hab (by omega) Z) (mm_fit_of cbX3_copyFrom (by decide) (by decide)) wq439 cvX3_copyFrom (wv1 ha (by omega)) rfl rfl rfl (Nat.le_of_ble_eq_true rfl) (by decide) (by decide) rfl dX5_copyFrom_82 ?_
      refine aw_iinc (n := 1) (x := (nI i)) (v := nI (i + 1)) (L2 := [some (.ref (ad 0 a 0)), some (.ref (ad 0 b 0)), some (.int (nI (i + 1))), some (.ref (ad 1 a i)), some (.ref (ad 1 b i))]) rfl (nI_1 i) (by decide) rfl rfl dX5_copyFrom_85 ?_
      refine aw_goto (tgt := 52) (by decide) dX5_copyFrom_88 ?_
      have e9 : (RT none (wd_row o a (cp (cp (o.1 a) (o.1 b) (20 * (i) + 1) (20 * n + 1)) (o.1 b) 102 (101 + 8 * m + 1)))) = (RT none (wd_row (wd_row o a (cp (o.1 a) (o.1 b) (20 * i + 1) (20 * i + 21))) a (cp (cp ((wd_row o a (cp (o.1 a) (o.1 b) (20 * i + 1) (20 * i + 21))).1 a) ((wd_row o a (cp (o.1 a) (o.1 b) (20 * i + 1) (20 * i + 21))).1 b) (20 * (i + 1) + 1) (20 * n + 1)) ((wd_row o a (cp (o.1 a) (o.1 b) (20 * i + 1) (20 * i + 21))).1 b) 102 (101 + 8 * m + 1)))) := by first | rw [row_self, row_ne _ _ hab, row_row, show 20 * i + 21 = 20 * (i + 1) + 1 by omega, cp_cp _ _ (by omega) (by omega)] | rw [cp_ge _ _ (show 20 * n + 1 ≤ 20 * i + 1 by omega), cp_ge _ _ (show 20 * n + 1 ≤ 20 * (i + 1) + 1 by omega)]
      rw [e9]
      exact AW.locs (ih (i + 1) (wd_row o a (cp (o.1 a) (o.1 b) (20 * i + 1) (20 * i + 21)))  (by omega) (by rw [row_ne _ _ hab]; exact Z) (by rw [row_self]; unfold cp; rw [if_neg (by omega)]; exact hA) (by rw [row_ne _ _ hab]; exact hB) (by rw [row_self]; unfold cp; rw [if_neg (by omega)]; exact hA1) (by rw [row_ne _ _ hab]; exact hB1)) (lsub_keep (lsub_keep (lsub_keep (lsub_none (lsub_none lsub_nil)))))
    · skip
      refine aw_rV (As := [.int (nI i)]) (S := []) (v := some (.null)) (o2 := o) (ct_X5_loopAt_nj ha hA (by omega) (by omega)) (mm_fit_of cbX5_loopAt (by decide) (by decide)) wq334 cvX5_loopAt (wv0 ha) rfl rfl rfl (Nat.le_of_ble_eq_true rfl) (by decide) (by decide) rfl dX5_copyFrom_59 ?_
      refine aw_astore_nN (L2 := [some (.ref (ad 0 a 0)), some (.ref (ad 0 b 0)), some (.int (nI i)), some (.null), none]) (by decide) rfl rfl dX5_copyFrom_62 ?_
      refine aw_aload_n (x := ad 0 b 0) rfl dX5_copyFrom_63 ?_
      refine aw_iload_n (x := (nI i)) rfl dX5_copyFrom_64 ?_
      refine aw_rV (As := [.int (nI i)]) (S := []) (v := some (.null)) (o2 := o) (ct_X5_loopAt_nj hb hB (by omega) (by omega)) (mm_fit_of cbX5_loopAt (by decide) (by decide)) wq334 cvX5_loopAt (wv0 hb) rfl rfl rfl (Nat.le_of_ble_eq_true rfl) (by decide) (by decide) rfl dX5_copyFrom_65 ?_
      refine aw_astoreN (L2 := [some (.ref (ad 0 a 0)), some (.ref (ad 0 b 0)), some (.int (nI i)), some (.null), some (.null)]) (by decide) rfl rfl dX5_copyFrom_68 ?_
      refine aw_aload_nN rfl dX5_copyFrom_70 ?_
      refine aw_ifnullN (tgt := 85) (by decide) dX5_copyFrom_71 ?_
      refine aw_iinc (n := 1) (x := (nI i)) (v := nI (i + 1)) (L2 := [some (.ref (ad 0 a 0)), some (.ref (ad 0 b 0)), some (.int (nI (i + 1))), some (.null), some (.null)]) rfl (nI_1 i) (by decide) rfl rfl dX5_copyFrom_85 ?_
      refine aw_goto (tgt := 52) (by decide) dX5_copyFrom_88 ?_
      have e9 : (RT none (wd_row o a (cp (cp (o.1 a) (o.1 b) (20 * (i) + 1) (20 * n + 1)) (o.1 b) 102 (101 + 8 * m + 1)))) = (RT none (wd_row o a (cp (cp (o.1 a) (o.1 b) (20 * (i + 1) + 1) (20 * n + 1)) (o.1 b) 102 (101 + 8 * m + 1)))) := by first | rw [row_self, row_ne _ _ hab, row_row, show 20 * i + 21 = 20 * (i + 1) + 1 by omega, cp_cp _ _ (by omega) (by omega)] | rw [cp_ge _ _ (show 20 * n + 1 ≤ 20 * i + 1 by omega), cp_ge _ _ (show 20 * n + 1 ≤ 20 * (i + 1) + 1 by omega)]
      rw [e9]
      exact AW.locs (ih (i + 1) o  (by omega) Z hA hB hA1 hB1) (lsub_keep (lsub_keep (lsub_keep (lsub_none (lsub_none lsub_nil)))))
theorem cp_all (A B : Nat → Int32) {n m : Nat} (hn : n ≤ 5) (hm : m ≤ 16) : cp (cp (upd (upd (upd (upd (upd (upd (upd (upd (upd A 0 (B 0)) 101 (B 101)) 230 (B 230)) 231 (B 231)) 232 (B 232)) 233 (B 233)) 234 (B 234)) 235 (B 235)) 236 (B 236)) B 1 (20 * n + 1)) B 102 (101 + 8 * m + 1) = cpn A B n m := by
  funext x
  unfold cp cpn upd uz
  by_cases a : 102 ≤ x ∧ x < 101 + 8 * m + 1
  · rw [if_pos a, if_pos (by omega)]
  · rw [if_neg a]
    by_cases b : 1 ≤ x ∧ x < 20 * n + 1
    · rw [if_pos b, if_pos (by omega)]
    · rw [if_neg b]
      by_cases c : x = 0 ∨ (1 ≤ x ∧ x < 20 * n + 1) ∨ x = 101 ∨ (102 ≤ x ∧ x < 101 + 8 * m + 1) ∨ (230 ≤ x ∧ x < 237)
      · rw [if_pos c]
        rcases (show x = 0 ∨ x = 101 ∨ x = 230 ∨ x = 231 ∨ x = 232 ∨ x = 233 ∨ x = 234 ∨ x = 235 ∨ x = 236 by omega) with rfl | rfl | rfl | rfl | rfl | rfl | rfl | rfl | rfl <;> simp
      · rw [if_neg c]
        simp [show ¬ x = 0 by omega, show ¬ x = 101 by omega, show ¬ x = 230 by omega, show ¬ x = 231 by omega, show ¬ x = 232 by omega, show ¬ x = 233 by omega, show ¬ x = 234 by omega, show ¬ x = 235 by omega, show ¬ x = 236 by omega]
theorem ct_X5_copyFrom {ad : Nat → Nat → Nat → Nat} {o : wd_S} {a b n m : Nat} (ha : a < 5) (hb : b < 5) (hab : b ≠ a) (hn : n ≤ 5) (hm : m ≤ 16) (h0 : o.1 b 0 = nI n) (h1 : o.1 b 101 = nI m) (Z : bz (o.1 b)) : CT ad MX5_copyFrom [.ref (ad 0 a 0), .ref (ad 0 b 0)] o (RT none (wd_row o a (cpr (o.1 a) (o.1 b)))) := by
  refine CT.of (L := [some (.ref (ad 0 a 0)), some (.ref (ad 0 b 0)), none, none, none]) rfl rfl (by decide) (Nat.le_of_ble_eq_true rfl) rfl ?_
  refine aw_aload_n (x := ad 0 a 0) rfl dX5_copyFrom_0 ?_
  refine aw_aload_n (x := ad 0 b 0) rfl dX5_copyFrom_1 ?_
  refine aw_geti (q := (b, 0)) (x := o.1 b 0) (wv0 hb) rfl rfl flX5_27 rfl (Or.inl rfl) dX5_copyFrom_2 ?_
  refine aw_puti (q := (a, 0)) (wv0 ha) rfl fwX5_27 rfl rfl dX5_copyFrom_5 ?_
  refine aw_aload_n (x := ad 0 a 0) rfl dX5_copyFrom_8 ?_
  refine aw_aload_n (x := ad 0 b 0) rfl dX5_copyFrom_9 ?_
  refine aw_geti (q := (b, 101)) (x := o.1 b 101) (wv0 hb) rfl (by simp [wd_get, hab]) flX5_31 rfl (Or.inl rfl) dX5_copyFrom_10 ?_
  refine aw_puti (q := (a, 101)) (wv0 ha) rfl fwX5_31 rfl rfl dX5_copyFrom_13 ?_
  refine aw_aload_n (x := ad 0 a 0) rfl dX5_copyFrom_16 ?_
  refine aw_aload_n (x := ad 0 b 0) rfl dX5_copyFrom_17 ?_
  refine aw_geti (q := (b, 230)) (x := o.1 b 230) (wv0 hb) rfl (by simp [wd_get, hab]) flX5_34 rfl (Or.inl rfl) dX5_copyFrom_18 ?_
  refine aw_puti (q := (a, 230)) (wv0 ha) rfl fwX5_34 rfl rfl dX5_copyFrom_21 ?_
  refine aw_iconst (v := 0) (by decide) dX5_copyFrom_24 ?_
  refine aw_istore_n (L2 := [some (.ref (ad 0 a 0)), some (.ref (ad 0 b 0)), some (.int 0), none, none]) (by decide) rfl rfl dX5_copyFrom_25 ?_
  refine aw_iload_n (x := 0) rfl dX5_copyFrom_26 ?_
  refine aw_bipush (v := 6) (by decide) dX5_copyFrom_27 ?_
  refine aw_icmp_ge (tgt := 50) (by decide) dX5_copyFrom_29 (fun z => absurd z (by decide)) (fun _ => ?_)
  refine aw_aload_n (x := ad 0 a 0) rfl dX5_copyFrom_32 ?_
  refine aw_getr (q := (4, a, 0)) (wv0 ha) rfl flX5_23 rfl rfl dX5_copyFrom_33 ?_
  refine aw_iload_n (x := 0) rfl dX5_copyFrom_36 ?_
  refine aw_aload_n (x := ad 0 b 0) rfl dX5_copyFrom_37 ?_
  refine aw_getr (q := (4, b, 0)) (wv0 hb) rfl flX5_23 rfl rfl dX5_copyFrom_38 ?_
  refine aw_iload_n (x := 0) rfl dX5_copyFrom_41 ?_
  refine aw_ild (x := 0) (q := (b, 231)) (y := o.1 b 231) (by decide) (wv4 (j := b) (by omega)) rfl (by simp [wd_get, hab]) (Nat.le_of_ble_eq_true rfl) rfl dX5_copyFrom_42 ?_
  refine aw_ist (x := 0) (q := (a, 231)) (y := o.1 b 231) (by decide) (wv4 (j := a) (by omega)) rfl (Nat.le_of_ble_eq_true rfl) rfl dX5_copyFrom_43 ?_
  refine aw_iinc (n := 1) (x := 0) (v := 1) (L2 := [some (.ref (ad 0 a 0)), some (.ref (ad 0 b 0)), some (.int 1), none, none]) rfl (by decide) (by decide) rfl rfl dX5_copyFrom_44 ?_
  refine aw_goto (tgt := 26) (by decide) dX5_copyFrom_47 ?_
  refine aw_iload_n (x := 1) rfl dX5_copyFrom_26 ?_
  refine aw_bipush (v := 6) (by decide) dX5_copyFrom_27 ?_
  refine aw_icmp_ge (tgt := 50) (by decide) dX5_copyFrom_29 (fun z => absurd z (by decide)) (fun _ => ?_)
  refine aw_aload_n (x := ad 0 a 0) rfl dX5_copyFrom_32 ?_
  refine aw_getr (q := (4, a, 0)) (wv0 ha) rfl flX5_23 rfl rfl dX5_copyFrom_33 ?_
  refine aw_iload_n (x := 1) rfl dX5_copyFrom_36 ?_
  refine aw_aload_n (x := ad 0 b 0) rfl dX5_copyFrom_37 ?_
  refine aw_getr (q := (4, b, 0)) (wv0 hb) rfl flX5_23 rfl rfl dX5_copyFrom_38 ?_
  refine aw_iload_n (x := 1) rfl dX5_copyFrom_41 ?_
  refine aw_ild (x := 1) (q := (b, 232)) (y := o.1 b 232) (by decide) (wv4 (j := b) (by omega)) rfl (by simp [wd_get, hab]) (Nat.le_of_ble_eq_true rfl) rfl dX5_copyFrom_42 ?_
  refine aw_ist (x := 1) (q := (a, 232)) (y := o.1 b 232) (by decide) (wv4 (j := a) (by omega)) rfl (Nat.le_of_ble_eq_true rfl) rfl dX5_copyFrom_43 ?_
  refine aw_iinc (n := 1) (x := 1) (v := 2) (L2 := [some (.ref (ad 0 a 0)), some (.ref (ad 0 b 0)), some (.int 2), none, none]) rfl (by decide) (by decide) rfl rfl dX5_copyFrom_44 ?_
  refine aw_goto (tgt := 26) (by decide) dX5_copyFrom_47 ?_
  refine aw_iload_n (x := 2) rfl dX5_copyFrom_26 ?_
  refine aw_bipush (v := 6) (by decide) dX5_copyFrom_27 ?_
  refine aw_icmp_ge (tgt := 50) (by decide) dX5_copyFrom_29 (fun z => absurd z (by decide)) (fun _ => ?_)
  refine aw_aload_n (x := ad 0 a 0) rfl dX5_copyFrom_32 ?_
  refine aw_getr (q := (4, a, 0)) (wv0 ha) rfl flX5_23 rfl rfl dX5_copyFrom_33 ?_
  refine aw_iload_n (x := 2) rfl dX5_copyFrom_36 ?_
  refine aw_aload_n (x := ad 0 b 0) rfl dX5_copyFrom_37 ?_
  refine aw_getr (q := (4, b, 0)) (wv0 hb) rfl flX5_23 rfl rfl dX5_copyFrom_38 ?_
  refine aw_iload_n (x := 2) rfl dX5_copyFrom_41 ?_
  refine aw_ild (x := 2) (q := (b, 233)) (y := o.1 b 233) (by decide) (wv4 (j := b) (by omega)) rfl (by simp [wd_get, hab]) (Nat.le_of_ble_eq_true rfl) rfl dX5_copyFrom_42 ?_
  refine aw_ist (x := 2) (q := (a, 233)) (y := o.1 b 233) (by decide) (wv4 (j := a) (by omega)) rfl (Nat.le_of_ble_eq_true rfl) rfl dX5_copyFrom_43 ?_
  refine aw_iinc (n := 1) (x := 2) (v := 3) (L2 := [some (.ref (ad 0 a 0)), some (.ref (ad 0 b 0)), some (.int 3), none, none]) rfl (by decide) (by decide) rfl rfl dX5_copyFrom_44 ?_
  refine aw_goto (tgt := 26) (by decide) dX5_copyFrom_47 ?_
  refine aw_iload_n (x := 3) rfl dX5_copyFrom_26 ?_
  refine aw_bipush (v := 6) (by decide) dX5_copyFrom_27 ?_
  refine aw_icmp_ge (tgt := 50) (by decide) dX5_copyFrom_29 (fun z => absurd z (by decide)) (fun _ => ?_)
  refine aw_aload_n (x := ad 0 a 0) rfl dX5_copyFrom_32 ?_
  refine aw_getr (q := (4, a, 0)) (wv0 ha) rfl flX5_23 rfl rfl dX5_copyFrom_33 ?_
  refine aw_iload_n (x := 3) rfl dX5_copyFrom_36 ?_
  refine aw_aload_n (x := ad 0 b 0) rfl dX5_copyFrom_37 ?_
  refine aw_getr (q := (4, b, 0)) (wv0 hb) rfl flX5_23 rfl rfl dX5_copyFrom_38 ?_
  refine aw_iload_n (x := 3) rfl dX5_copyFrom_41 ?_
  refine aw_ild (x := 3) (q := (b, 234)) (y := o.1 b 234) (by decide) (wv4 (j := b) (by omega)) rfl (by simp [wd_get, hab]) (Nat.le_of_ble_eq_true rfl) rfl dX5_copyFrom_42 ?_
  refine aw_ist (x := 3) (q := (a, 234)) (y := o.1 b 234) (by decide) (wv4 (j := a) (by omega)) rfl (Nat.le_of_ble_eq_true rfl) rfl dX5_copyFrom_43 ?_
  refine aw_iinc (n := 1) (x := 3) (v := 4) (L2 := [some (.ref (ad 0 a 0)), some (.ref (ad 0 b 0)), some (.int 4), none, none]) rfl (by decide) (by decide) rfl rfl dX5_copyFrom_44 ?_
  refine aw_goto (tgt := 26) (by decide) dX5_copyFrom_47 ?_
  refine aw_iload_n (x := 4) rfl dX5_copyFrom_26 ?_
  refine aw_bipush (v := 6) (by decide) dX5_copyFrom_27 ?_
  refine aw_icmp_ge (tgt := 50) (by decide) dX5_copyFrom_29 (fun z => absurd z (by decide)) (fun _ => ?_)
  refine aw_aload_n (x := ad 0 a 0) rfl dX5_copyFrom_32 ?_
  refine aw_getr (q := (4, a, 0)) (wv0 ha) rfl flX5_23 rfl rfl dX5_copyFrom_33 ?_
  refine aw_iload_n (x := 4) rfl dX5_copyFrom_36 ?_
  refine aw_aload_n (x := ad 0 b 0) rfl dX5_copyFrom_37 ?_
  refine aw_getr (q := (4, b, 0)) (wv0 hb) rfl flX5_23 rfl rfl dX5_copyFrom_38 ?_
  refine aw_iload_n (x := 4) rfl dX5_copyFrom_41 ?_
  refine aw_ild (x := 4) (q := (b, 235)) (y := o.1 b 235) (by decide) (wv4 (j := b) (by omega)) rfl (by simp [wd_get, hab]) (Nat.le_of_ble_eq_true rfl) rfl dX5_copyFrom_42 ?_
  refine aw_ist (x := 4) (q := (a, 235)) (y := o.1 b 235) (by decide) (wv4 (j := a) (by omega)) rfl (Nat.le_of_ble_eq_true rfl) rfl dX5_copyFrom_43 ?_
  refine aw_iinc (n := 1) (x := 4) (v := 5) (L2 := [some (.ref (ad 0 a 0)), some (.ref (ad 0 b 0)), some (.int 5), none, none]) rfl (by decide) (by decide) rfl rfl dX5_copyFrom_44 ?_
  refine aw_goto (tgt := 26) (by decide) dX5_copyFrom_47 ?_
  refine aw_iload_n (x := 5) rfl dX5_copyFrom_26 ?_
  refine aw_bipush (v := 6) (by decide) dX5_copyFrom_27 ?_
  refine aw_icmp_ge (tgt := 50) (by decide) dX5_copyFrom_29 (fun z => absurd z (by decide)) (fun _ => ?_)
  refine aw_aload_n (x := ad 0 a 0) rfl dX5_copyFrom_32 ?_
  refine aw_getr (q := (4, a, 0)) (wv0 ha) rfl flX5_23 rfl rfl dX5_copyFrom_33 ?_
  refine aw_iload_n (x := 5) rfl dX5_copyFrom_36 ?_
  refine aw_aload_n (x := ad 0 b 0) rfl dX5_copyFrom_37 ?_
  refine aw_getr (q := (4, b, 0)) (wv0 hb) rfl flX5_23 rfl rfl dX5_copyFrom_38 ?_
  refine aw_iload_n (x := 5) rfl dX5_copyFrom_41 ?_
  refine aw_ild (x := 5) (q := (b, 236)) (y := o.1 b 236) (by decide) (wv4 (j := b) (by omega)) rfl (by simp [wd_get, hab]) (Nat.le_of_ble_eq_true rfl) rfl dX5_copyFrom_42 ?_
  refine aw_ist (x := 5) (q := (a, 236)) (y := o.1 b 236) (by decide) (wv4 (j := a) (by omega)) rfl (Nat.le_of_ble_eq_true rfl) rfl dX5_copyFrom_43 ?_
  refine aw_iinc (n := 1) (x := 5) (v := 6) (L2 := [some (.ref (ad 0 a 0)), some (.ref (ad 0 b 0)), some (.int 6), none, none]) rfl (by decide) (by decide) rfl rfl dX5_copyFrom_44 ?_
  refine aw_goto (tgt := 26) (by decide) dX5_copyFrom_47 ?_
  refine aw_iload_n (x := 6) rfl dX5_copyFrom_26 ?_
  refine aw_bipush (v := 6) (by decide) dX5_copyFrom_27 ?_
  refine aw_icmp_ge (tgt := 50) (by decide) dX5_copyFrom_29 (fun _ => ?_) (fun z => absurd z (by decide))
  refine aw_iconst (v := 0) (by decide) dX5_copyFrom_50 ?_
  refine aw_istore_n (L2 := [some (.ref (ad 0 a 0)), some (.ref (ad 0 b 0)), some (.int 0), none, none]) (by decide) rfl rfl dX5_copyFrom_51 ?_
  refine AW.post (lp_X5_cpl ha hb hab hn hm 5 0 (wd_w (wd_w (wd_w (wd_w (wd_w (wd_w (wd_w (wd_w (wd_w o a 0 (o.1 b 0)) a 101 (o.1 b 101)) a 230 (o.1 b 230)) a 231 (o.1 b 231)) a 232 (o.1 b 232)) a 233 (o.1 b 233)) a 234 (o.1 b 234)) a 235 (o.1 b 235)) a 236 (o.1 b 236)) (by decide) (by simp only [wd_w_row, row_ne _ _ hab]; exact Z) (by simp [wd_get, h0]) (by simp [wd_get, hab, h0]) (by simp [wd_get, h1]) (by simp [wd_get, hab, h1])) (fun r o2 q => ?_)
  rw [cpr_eq _ h0 h1 hn hm, ← cp_all _ _ hn hm]
  simpa [wd_w_row, row_self, row_row, row_ne _ _ hab] using q
