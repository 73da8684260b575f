/-! PartyLines: its private methods. A method's outcome as a pair: what it returns or throws, and the world -/
abbrev Out : Type := (Option Value ⊕ String) × wd_S
def OT (q : Out) : (Option Value ⊕ String) → wd_S → Prop := fun r o => r = q.1 ∧ o = q.2
def oI (v : Int32) (o : wd_S) : Out := (.inl (some (.int v)), o)
def oX (E : String) (o : wd_S) : Out := (.inr E, o)
abbrev eS : String := "java/lang/IllegalStateException"
abbrev eA : String := "java/lang/IllegalArgumentException"
abbrev eI : String := "java/lang/IndexOutOfBoundsException"
section
variable {ad : Nat → Nat → Nat → Nat} {M : mm_M} {pc : Nat} {L : List (Option Value)} {S : List Value} {o : wd_S} {cc cs : Nat} {F : (Option Value ⊕ String) → wd_S → Prop}
/-- a call that throws, in a method that catches nothing -/
theorem aw_xV {M2 : mm_M} {E : String} {o2 : wd_S} {t j i ci idx n : Nat} {As st : List Value} (hG : CT ad M2 (.ref (ad t j i) :: As) o (XT E o2)) (hf : mm_fit M M2 n) (hl : Cond.methodLink (mm_my M).cls idx (mm_my M2) ∈ mm_B) (ho : cvo M2 ci) (hv : wd_v t j i) (ht : wd_k t = ci + 1) (hn : As.length = n) (hst : As.reverse ++ .ref (ad t j i) :: S = st) (hcat : (S.map fun v => v.category).sum ≤ 8) (hcc : cc + (mm_mo M2).cells ≤ (mm_mo M).cells) (hcs : cs + (mm_mo M2).slots ≤ (mm_mo M).slots) (hh : mm_mh M = []) (d : decode (mm_mc M) pc = .ok (.invokevirtual idx, 3)) (hp : F (.inr E) o2) : AW ad M pc L st o cc cs F :=
  aw_cV hG hf hl ho hv ht hn hst hcat hcc hcs d (fun v2 o3 q => by obtain ⟨q1, q2⟩ := q; cases q1) (fun E o3 q => by obtain ⟨q1, q2⟩ := q; cases q1; rw [q2]; exact ax_out hh hcc hcs hp)
end
/-- the standing of the class's world: n loops, m subscribers, c saved states -/
def vs (o : wd_S) (n m c : Nat) : Prop := cg (o.1 0) n m ∧ bz (o.1 0) ∧ o.1 5 0 = nI c ∧ c ≤ 4
def cs_sv (o : wd_S) (c : Nat) : wd_S := if c < 4 then cs_save o c else cs_save (cs_drop o) 3
theorem ct_X2_save {ad : Nat → Nat → Nat → Nat} {o : wd_S} {c n m : Nat} (G : cg (o.1 0) n m) (hk : o.1 5 0 = nI c) (hc : c ≤ 4) (Z : bz (o.1 0)) : CT ad MX2_save [.ref (ad 9 0 0), .ref (ad 0 0 0)] o (RT none (cs_sv o c)) := by
  refine CT.pi (fun hp => ?_)
  unfold cs_sv
  by_cases h : c < 4
  · rw [if_pos h]; exact ct_X2_save_lt hp G hk h Z
  · rw [if_neg h]
    have : c = 4 := by omega
    subst this
    exact ct_X2_save_4 hp G hk Z
theorem ct_X7_knownLoop_some {ad : Nat → Nat → Nat → Nat} {o : wd_S} {n m l : Nat} (G : cg (o.1 0) n m) {x : Int32} (hx : lk n x = some l) : CT ad MX7_knownLoop [.ref (ad 7 0 0), .int x] o (RT (some (.ref (ad 1 0 l))) o) := by
  replace hx := lk_some hx
  have g2 := G.2.1
  refine CT.of (L := [some (.ref (ad 7 0 0)), some (.int x), none]) rfl rfl (by decide) (Nat.le_of_ble_eq_true rfl) rfl ?_
  refine aw_aload_n (x := ad 7 0 0) rfl dX7_knownLoop_0 ?_
  refine aw_getr (q := (0, 0, 0)) wv7 rfl flX7_10 rfl rfl dX7_knownLoop_1 ?_
  refine aw_iload_n (x := x) rfl dX7_knownLoop_4 ?_
  refine aw_rV (As := [.int x]) (S := []) (v := some (.ref (ad 1 0 l))) (o2 := o) (by rw [hx.1]; exact ct_X5_loopAt_some G hx.2) (mm_fit_of cbX5_loopAt (by decide) (by decide)) wq259 cvX5_loopAt (wv0 (by decide)) rfl rfl rfl (Nat.le_of_ble_eq_true rfl) (by decide) (by decide) rfl dX7_knownLoop_5 ?_
  refine aw_astore_n (L2 := [some (.ref (ad 7 0 0)), some (.int x), some (.ref (ad 1 0 l))]) (by decide) rfl rfl dX7_knownLoop_8 ?_
  refine aw_aload_n (x := ad 1 0 l) rfl dX7_knownLoop_9 ?_
  refine aw_ifnonnull (tgt := 24) (by decide) dX7_knownLoop_10 ?_
  refine aw_aload_n (x := ad 1 0 l) rfl dX7_knownLoop_24 ?_
  exact aw_aret rfl (Or.inr ⟨_, rfl⟩) (by decide) (by decide) dX7_knownLoop_25 ⟨by first | rfl | (simp [wd_w_row, row_self, row_row]; done) | (simp_all [wd_w_row, row_self, row_row]; done), by first | rfl | (simp [wd_w_row, row_self, row_row]; done) | (simp_all [wd_w_row, row_self, row_row]; done)⟩
theorem ct_X7_knownLoop_none {ad : Nat → Nat → Nat → Nat} {o : wd_S} {n m : Nat} (G : cg (o.1 0) n m) {x : Int32} (hx : lk n x = none) : CT ad MX7_knownLoop [.ref (ad 7 0 0), .int x] o (XT eI o) := by
  refine CT.of (L := [some (.ref (ad 7 0 0)), some (.int x), none]) rfl rfl (by decide) (Nat.le_of_ble_eq_true rfl) rfl ?_
  refine aw_aload_n (x := ad 7 0 0) rfl dX7_knownLoop_0 ?_
  refine aw_getr (q := (0, 0, 0)) wv7 rfl flX7_10 rfl rfl dX7_knownLoop_1 ?_
  refine aw_iload_n (x := x) rfl dX7_knownLoop_4 ?_
  refine aw_rV (As := [.int x]) (S := []) (v := some (.null)) (o2 := o) (ct_X5_loopAt_none (lk_none G.1 (by have := G.2.1; omega) hx)) (mm_fit_of cbX5_loopAt (by decide) (by decide)) wq259 cvX5_loopAt (wv0 (by decide)) rfl rfl rfl (Nat.le_of_ble_eq_true rfl) (by decide) (by decide) rfl dX7_knownLoop_5 ?_
  refine aw_astore_nN (L2 := [some (.ref (ad 7 0 0)), some (.int x), some (.null)]) (by decide) rfl rfl dX7_knownLoop_8 ?_
  refine aw_aload_nN rfl dX7_knownLoop_9 ?_
  refine aw_ifnonnullN dX7_knownLoop_10 ?_
  exact aw_throwW th218_222 rfl (text := "no such loop") (by decide) rfl dX7_knownLoop_13 dX7_knownLoop_16 dX7_knownLoop_17 dX7_knownLoop_20 dX7_knownLoop_23 (by decide) (Nat.le_of_ble_eq_true rfl) (by decide) (by decide) ⟨rfl, by first | rfl | (simp [wd_w_row, row_self, row_row]; done) | (simp_all [wd_w_row, row_self, row_row]; done)⟩
theorem ct_X7_knownSub_some {ad : Nat → Nat → Nat → Nat} {o : wd_S} {n m s : Nat} (G : cg (o.1 0) n m) {x : Int32} (hx : lk m x = some s) : CT ad MX7_knownSubscriber [.ref (ad 7 0 0), .int x] o (RT (some (.ref (ad 3 0 s))) o) := by
  replace hx := lk_some hx
  have g2 := G.2.2.2.1
  refine CT.of (L := [some (.ref (ad 7 0 0)), some (.int x), none]) rfl rfl (by decide) (Nat.le_of_ble_eq_true rfl) rfl ?_
  refine aw_aload_n (x := ad 7 0 0) rfl dX7_knownSubscriber_0 ?_
  refine aw_getr (q := (0, 0, 0)) wv7 rfl flX7_10 rfl rfl dX7_knownSubscriber_1 ?_
  refine aw_iload_n (x := x) rfl dX7_knownSubscriber_4 ?_
  refine aw_rV (As := [.int x]) (S := []) (v := some (.ref (ad 3 0 s))) (o2 := o) (by rw [hx.1]; exact ct_X5_subscriberAt_some G hx.2) (mm_fit_of cbX5_subscriberAt (by decide) (by decide)) wq317 cvX5_subscriberAt (wv0 (by decide)) rfl rfl rfl (Nat.le_of_ble_eq_true rfl) (by decide) (by decide) rfl dX7_knownSubscriber_5 ?_
  refine aw_astore_n (L2 := [some (.ref (ad 7 0 0)), some (.int x), some (.ref (ad 3 0 s))]) (by decide) rfl rfl dX7_knownSubscriber_8 ?_
  refine aw_aload_n (x := ad 3 0 s) rfl dX7_knownSubscriber_9 ?_
  refine aw_ifnonnull (tgt := 24) (by decide) dX7_knownSubscriber_10 ?_
  refine aw_aload_n (x := ad 3 0 s) rfl dX7_knownSubscriber_24 ?_
  exact aw_aret rfl (Or.inr ⟨_, rfl⟩) (by decide) (by decide) dX7_knownSubscriber_25 ⟨by first | rfl | (simp [wd_w_row, row_self, row_row]; done) | (simp_all [wd_w_row, row_self, row_row]; done), by first | rfl | (simp [wd_w_row, row_self, row_row]; done) | (simp_all [wd_w_row, row_self, row_row]; done)⟩
theorem ct_X7_knownSub_none {ad : Nat → Nat → Nat → Nat} {o : wd_S} {n m : Nat} (G : cg (o.1 0) n m) {x : Int32} (hx : lk m x = none) : CT ad MX7_knownSubscriber [.ref (ad 7 0 0), .int x] o (XT eI o) := by
  refine CT.of (L := [some (.ref (ad 7 0 0)), some (.int x), none]) rfl rfl (by decide) (Nat.le_of_ble_eq_true rfl) rfl ?_
  refine aw_aload_n (x := ad 7 0 0) rfl dX7_knownSubscriber_0 ?_
  refine aw_getr (q := (0, 0, 0)) wv7 rfl flX7_10 rfl rfl dX7_knownSubscriber_1 ?_
  refine aw_iload_n (x := x) rfl dX7_knownSubscriber_4 ?_
  refine aw_rV (As := [.int x]) (S := []) (v := some (.null)) (o2 := o) (ct_X5_subscriberAt_none (lk_none G.2.2.1 (by have := G.2.2.2.1; omega) hx)) (mm_fit_of cbX5_subscriberAt (by decide) (by decide)) wq317 cvX5_subscriberAt (wv0 (by decide)) rfl rfl rfl (Nat.le_of_ble_eq_true rfl) (by decide) (by decide) rfl dX7_knownSubscriber_5 ?_
  refine aw_astore_nN (L2 := [some (.ref (ad 7 0 0)), some (.int x), some (.null)]) (by decide) rfl rfl dX7_knownSubscriber_8 ?_
  refine aw_aload_nN rfl dX7_knownSubscriber_9 ?_
  refine aw_ifnonnullN dX7_knownSubscriber_10 ?_
  exact aw_throwW th218_222 rfl (text := "no such subscriber") (by decide) rfl dX7_knownSubscriber_13 dX7_knownSubscriber_16 dX7_knownSubscriber_17 dX7_knownSubscriber_20 dX7_knownSubscriber_23 (by decide) (Nat.le_of_ble_eq_true rfl) (by decide) (by decide) ⟨rfl, by first | rfl | (simp [wd_w_row, row_self, row_row]; done) | (simp_all [wd_w_row, row_self, row_row]; done)⟩
def cs_span (x : Int32) : Int32 := if x < 1 then 0 else if x > 12 then 0 else 1
theorem ct_X7_isSpan {ad : Nat → Nat → Nat → Nat} {o : wd_S} {x : Int32} : CT ad MX7_isSpan [.int x] o (RT (some (.int (cs_span x))) o) := by
  refine CT.of (L := [some (.int x)]) rfl rfl (by decide) (Nat.le_of_ble_eq_true rfl) rfl ?_
  refine aw_iload_n (x := x) rfl dX7_isSpan_0 ?_
  refine aw_iconst (v := 1) (by decide) dX7_isSpan_1 ?_
  refine aw_icmp_lt (tgt := 15) (by decide) dX7_isSpan_2 (fun b1 => ?_) (fun b1 => ?_)
  · skip
    refine aw_iconst (v := 0) (by decide) dX7_isSpan_15 ?_
    exact aw_zret rfl (by decide) (by decide) (by decide) dX7_isSpan_16 ⟨by first | rfl | (simp [cs_span, wd_w_row, row_self, row_row, b1]; done) | (simp_all [cs_span, wd_w_row, row_self, row_row, b1]; done), by first | rfl | (simp [cs_span, wd_w_row, row_self, row_row, b1]; done) | (simp_all [cs_span, wd_w_row, row_self, row_row, b1]; done)⟩
  · skip
    refine aw_iload_n (x := x) rfl dX7_isSpan_5 ?_
    refine aw_bipush (v := 12) (by decide) dX7_isSpan_6 ?_
    refine aw_icmp_gt (tgt := 15) (by decide) dX7_isSpan_8 (fun b2 => ?_) (fun b2 => ?_)
    · skip
      refine aw_iconst (v := 0) (by decide) dX7_isSpan_15 ?_
      exact aw_zret rfl (by decide) (by decide) (by decide) dX7_isSpan_16 ⟨by first | rfl | (simp [cs_span, wd_w_row, row_self, row_row, b1, b2]; done) | (simp_all [cs_span, wd_w_row, row_self, row_row, b1, b2]; done), by first | rfl | (simp [cs_span, wd_w_row, row_self, row_row, b1, b2]; done) | (simp_all [cs_span, wd_w_row, row_self, row_row, b1, b2]; done)⟩
    · skip
      refine aw_iconst (v := 1) (by decide) dX7_isSpan_11 ?_
      refine aw_goto (tgt := 16) (by decide) dX7_isSpan_12 ?_
      exact aw_zret rfl (by decide) (by decide) (by decide) dX7_isSpan_16 ⟨by first | rfl | (simp [cs_span, wd_w_row, row_self, row_row, b1, b2]; done) | (simp_all [cs_span, wd_w_row, row_self, row_row, b1, b2]; done), by first | rfl | (simp [cs_span, wd_w_row, row_self, row_row, b1, b2]; done) | (simp_all [cs_span, wd_w_row, row_self, row_row, b1, b2]; done)⟩
def cs_setb (w v : Int32) : Int32 := if w = 0 then cs_isCode v else if w = 1 then (if v = 0 then 1 else if v = 1 then 1 else 0) else if w = 2 then (if v < 0 then 0 else if v > 99 then 0 else 1) else 0
theorem isCode_01 (v : Int32) : cs_isCode v = 0 ∨ cs_isCode v = 1 := by unfold cs_isCode; split <;> (try split) <;> simp
theorem ct_X7_isSettable {ad : Nat → Nat → Nat → Nat} {o : wd_S} {w v : Int32} : CT ad MX7_isSettable [.int w, .int v] o (RT (some (.int (cs_setb w v))) o) := by
  refine CT.of (L := [some (.int w), some (.int v)]) rfl rfl (by decide) (Nat.le_of_ble_eq_true rfl) rfl ?_
  refine aw_iload_n (x := w) rfl dX7_isSettable_0 ?_
  refine aw_if_ne (tgt := 9) (by decide) dX7_isSettable_1 (fun b1 => ?_) (fun b1 => ?_)
  · skip
    refine aw_iload_n (x := w) rfl dX7_isSettable_9 ?_
    refine aw_iconst (v := 1) (by decide) dX7_isSettable_10 ?_
    refine aw_icmp_ne (tgt := 29) (by decide) dX7_isSettable_11 (fun b2 => ?_) (fun b2 => ?_)
    · skip
      refine aw_iload_n (x := w) rfl dX7_isSettable_29 ?_
      refine aw_iconst (v := 2) (by decide) dX7_isSettable_30 ?_
      refine aw_icmp_ne (tgt := 48) (by decide) dX7_isSettable_31 (fun b3 => ?_) (fun b3 => ?_)
      · skip
        refine aw_iconst (v := 0) (by decide) dX7_isSettable_48 ?_
        exact aw_zret rfl (by decide) (by decide) (by decide) dX7_isSettable_49 ⟨by first | rfl | (simp [cs_setb, wd_w_row, row_self, row_row, b1, b2, b3]; done) | (simp_all [cs_setb, wd_w_row, row_self, row_row, b1, b2, b3]; done), by first | rfl | (simp [cs_setb, wd_w_row, row_self, row_row, b1, b2, b3]; done) | (simp_all [cs_setb, wd_w_row, row_self, row_row, b1, b2, b3]; done)⟩
      · skip
        refine aw_iload_n (x := v) rfl dX7_isSettable_34 ?_
        refine aw_if_lt (tgt := 48) (by decide) dX7_isSettable_35 (fun b4 => ?_) (fun b4 => ?_)
        · skip
          refine aw_iconst (v := 0) (by decide) dX7_isSettable_48 ?_
          exact aw_zret rfl (by decide) (by decide) (by decide) dX7_isSettable_49 ⟨by first | rfl | (simp [cs_setb, wd_w_row, row_self, row_row, b1, b2, b3, b4]; done) | (simp_all [cs_setb, wd_w_row, row_self, row_row, b1, b2, b3, b4]; done), by first | rfl | (simp [cs_setb, wd_w_row, row_self, row_row, b1, b2, b3, b4]; done) | (simp_all [cs_setb, wd_w_row, row_self, row_row, b1, b2, b3, b4]; done)⟩
        · skip
          refine aw_iload_n (x := v) rfl dX7_isSettable_38 ?_
          refine aw_bipush (v := 99) (by decide) dX7_isSettable_39 ?_
          refine aw_icmp_gt (tgt := 48) (by decide) dX7_isSettable_41 (fun b5 => ?_) (fun b5 => ?_)
          · skip
            refine aw_iconst (v := 0) (by decide) dX7_isSettable_48 ?_
            exact aw_zret rfl (by decide) (by decide) (by decide) dX7_isSettable_49 ⟨by first | rfl | (simp [cs_setb, wd_w_row, row_self, row_row, b1, b2, b3, b4, b5]; done) | (simp_all [cs_setb, wd_w_row, row_self, row_row, b1, b2, b3, b4, b5]; done), by first | rfl | (simp [cs_setb, wd_w_row, row_self, row_row, b1, b2, b3, b4, b5]; done) | (simp_all [cs_setb, wd_w_row, row_self, row_row, b1, b2, b3, b4, b5]; done)⟩
          · skip
            refine aw_iconst (v := 1) (by decide) dX7_isSettable_44 ?_
            refine aw_goto (tgt := 49) (by decide) dX7_isSettable_45 ?_
            exact aw_zret rfl (by decide) (by decide) (by decide) dX7_isSettable_49 ⟨by first | rfl | (simp [cs_setb, wd_w_row, row_self, row_row, b1, b2, b3, b4, b5]; done) | (simp_all [cs_setb, wd_w_row, row_self, row_row, b1, b2, b3, b4, b5]; done), by first | rfl | (simp [cs_setb, wd_w_row, row_self, row_row, b1, b2, b3, b4, b5]; done) | (simp_all [cs_setb, wd_w_row, row_self, row_row, b1, b2, b3, b4, b5]; done)⟩
    · skip
      refine aw_iload_n (x := v) rfl dX7_isSettable_14 ?_
      refine aw_if_eq (tgt := 23) (by decide) dX7_isSettable_15 (fun b6 => ?_) (fun b6 => ?_)
      · skip
        refine aw_iconst (v := 1) (by decide) dX7_isSettable_23 ?_
        refine aw_goto (tgt := 28) (by decide) dX7_isSettable_24 ?_
        exact aw_zret rfl (by decide) (by decide) (by decide) dX7_isSettable_28 ⟨by first | rfl | (simp [cs_setb, wd_w_row, row_self, row_row, b1, b2, b6]; done) | (simp_all [cs_setb, wd_w_row, row_self, row_row, b1, b2, b6]; done), by first | rfl | (simp [cs_setb, wd_w_row, row_self, row_row, b1, b2, b6]; done) | (simp_all [cs_setb, wd_w_row, row_self, row_row, b1, b2, b6]; done)⟩
      · skip
        refine aw_iload_n (x := v) rfl dX7_isSettable_18 ?_
        refine aw_iconst (v := 1) (by decide) dX7_isSettable_19 ?_
        refine aw_icmp_ne (tgt := 27) (by decide) dX7_isSettable_20 (fun b7 => ?_) (fun b7 => ?_)
        · skip
          refine aw_iconst (v := 0) (by decide) dX7_isSettable_27 ?_
          exact aw_zret rfl (by decide) (by decide) (by decide) dX7_isSettable_28 ⟨by first | rfl | (simp [cs_setb, wd_w_row, row_self, row_row, b1, b2, b6, b7]; done) | (simp_all [cs_setb, wd_w_row, row_self, row_row, b1, b2, b6, b7]; done), by first | rfl | (simp [cs_setb, wd_w_row, row_self, row_row, b1, b2, b6, b7]; done) | (simp_all [cs_setb, wd_w_row, row_self, row_row, b1, b2, b6, b7]; done)⟩
        · skip
          refine aw_iconst (v := 1) (by decide) dX7_isSettable_23 ?_
          refine aw_goto (tgt := 28) (by decide) dX7_isSettable_24 ?_
          exact aw_zret rfl (by decide) (by decide) (by decide) dX7_isSettable_28 ⟨by first | rfl | (simp [cs_setb, wd_w_row, row_self, row_row, b1, b2, b6, b7]; done) | (simp_all [cs_setb, wd_w_row, row_self, row_row, b1, b2, b6, b7]; done), by first | rfl | (simp [cs_setb, wd_w_row, row_self, row_row, b1, b2, b6, b7]; done) | (simp_all [cs_setb, wd_w_row, row_self, row_row, b1, b2, b6, b7]; done)⟩
  · skip
    refine aw_iload_n (x := v) rfl dX7_isSettable_4 ?_
    refine aw_rS (As := [.int v]) (S := []) (v := some (.int (cs_isCode v))) (o2 := o) ct_X0_isCode (mm_fit_of cbX0_isCode (by decide) (by decide)) wq483 wq484 rfl rfl (Nat.le_of_ble_eq_true rfl) (by decide) (by decide) rfl dX7_isSettable_5 ?_
    exact aw_zret rfl (isCode_01 v) (by decide) (by decide) dX7_isSettable_8 ⟨by first | rfl | (simp [cs_setb, wd_w_row, row_self, row_row, b1]; done) | (simp_all [cs_setb, wd_w_row, row_self, row_row, b1]; done), by first | rfl | (simp [cs_setb, wd_w_row, row_self, row_row, b1]; done) | (simp_all [cs_setb, wd_w_row, row_self, row_row, b1]; done)⟩
def cs_hasC (B : Nat → Int32) (m l : Nat) (c x : Int32) : Int32 := if anyF (cs_has B m l c x) 16 0 = true then 1 else 0
def cs_may (B : Nat → Int32) (m l s : Nat) (v : Int32) : Int32 := if cs_rung B l = 0 then (if cs_hasC B m l v (nI s) = 0 then 1 else 0) else 0
theorem ct_X7_may {ad : Nat → Nat → Nat → Nat} {o : wd_S} {n m l s : Nat} (G : cg (o.1 0) n m) (hl : l < n) (hs : s < m) (hh : o.1 0 (101 + 8 * s + 1) = nI l) {v : Int32} : CT ad MX7_mayTakeCode [.ref (ad 7 0 0), .ref (ad 3 0 s), .int v] o (RT (some (.int (cs_may (o.1 0) m l s v))) o) := by
  obtain ⟨g1, g2, g3, g4, g5, g6⟩ := id G
  have hl5 : l < 5 := by omega
  have hs16 : s < 16 := by omega
  refine CT.of (L := [some (.ref (ad 7 0 0)), some (.ref (ad 3 0 s)), some (.int v), none]) rfl rfl (by decide) (Nat.le_of_ble_eq_true rfl) rfl ?_
  refine aw_aload_n (x := ad 7 0 0) rfl dX7_mayTakeCode_0 ?_
  refine aw_getr (q := (0, 0, 0)) wv7 rfl flX7_10 rfl rfl dX7_mayTakeCode_1 ?_
  refine aw_aload_n (x := ad 3 0 s) rfl dX7_mayTakeCode_4 ?_
  refine aw_geti (q := (0, 101 + 8 * s + 1)) (x := nI l) (wv3 (by decide) (by omega)) rfl hh flX7_144 rfl (Or.inl rfl) dX7_mayTakeCode_5 ?_
  refine aw_rV (As := [.int (nI l)]) (S := []) (v := some (.ref (ad 1 0 l))) (o2 := o) (ct_X5_loopAt_some G hl) (mm_fit_of cbX5_loopAt (by decide) (by decide)) wq259 cvX5_loopAt (wv0 (by decide)) rfl rfl rfl (Nat.le_of_ble_eq_true rfl) (by decide) (by decide) rfl dX7_mayTakeCode_8 ?_
  refine aw_astore_n (L2 := [some (.ref (ad 7 0 0)), some (.ref (ad 3 0 s)), some (.int v), some (.ref (ad 1 0 l))]) (by decide) rfl rfl dX7_mayTakeCode_11 ?_
  refine aw_aload_n (x := ad 1 0 l) rfl dX7_mayTakeCode_12 ?_
  refine aw_ifnull dX7_mayTakeCode_13 ?_
  refine aw_aload_n (x := ad 1 0 l) rfl dX7_mayTakeCode_16 ?_
  refine aw_rV (As := []) (S := []) (v := some (.int (cs_rung (o.1 0) l))) (o2 := o) (ct_X3_isRung (by decide) hl5) (mm_fit_of cbX3_isRung (by decide) (by decide)) wq535 cvX3_isRung (wv1 (by decide) (by omega)) rfl rfl rfl (Nat.le_of_ble_eq_true rfl) (by decide) (by decide) rfl dX7_mayTakeCode_17 ?_
  refine aw_if_ne (tgt := 43) (by decide) dX7_mayTakeCode_20 (fun b1 => ?_) (fun b1 => ?_)
  · skip
    refine aw_iconst (v := 0) (by decide) dX7_mayTakeCode_43 ?_
    exact aw_zret rfl (by decide) (by decide) (by decide) dX7_mayTakeCode_44 ⟨by (first | with_reducible rfl | (simp [cs_may, wd_w_row, row_self, row_row, b1]; done) | (simp_all [cs_may, wd_w_row, row_self, row_row, b1]; done)), by (first | with_reducible rfl | (simp [cs_may, wd_w_row, row_self, row_row, b1]; done) | (simp_all [cs_may, wd_w_row, row_self, row_row, b1]; done))⟩
  · skip
    refine aw_aload_n (x := ad 7 0 0) rfl dX7_mayTakeCode_23 ?_
    refine aw_getr (q := (0, 0, 0)) wv7 rfl flX7_10 rfl rfl dX7_mayTakeCode_24 ?_
    refine aw_aload_n (x := ad 1 0 l) rfl dX7_mayTakeCode_27 ?_
    refine aw_iload_n (x := v) rfl dX7_mayTakeCode_28 ?_
    refine aw_aload_n (x := ad 3 0 s) rfl dX7_mayTakeCode_29 ?_
    refine aw_num (Or.inr rfl) (wv3 (by decide) (by omega)) flX7_158 rfl rfl dX7_mayTakeCode_30 ?_
    refine aw_rV (As := [.ref (ad 1 0 l), .int v, .int (nI s)]) (S := []) (v := some (.int (cs_hasC (o.1 0) m l v (nI s)))) (o2 := o) (ct_X5_hasCode G hl5) (mm_fit_of cbX5_hasCode (by decide) (by decide)) wq502 cvX5_hasCode (wv0 (by decide)) rfl rfl rfl (Nat.le_of_ble_eq_true rfl) (by decide) (by decide) rfl dX7_mayTakeCode_33 ?_
    refine aw_if_ne (tgt := 43) (by decide) dX7_mayTakeCode_36 (fun b2 => ?_) (fun b2 => ?_)
    · skip
      refine aw_iconst (v := 0) (by decide) dX7_mayTakeCode_43 ?_
      exact aw_zret rfl (by decide) (by decide) (by decide) dX7_mayTakeCode_44 ⟨by (first | with_reducible rfl | (simp [cs_may, wd_w_row, row_self, row_row, b1, b2]; done) | (simp_all [cs_may, wd_w_row, row_self, row_row, b1, b2]; done)), by (first | with_reducible rfl | (simp [cs_may, wd_w_row, row_self, row_row, b1, b2]; done) | (simp_all [cs_may, wd_w_row, row_self, row_row, b1, b2]; done))⟩
    · skip
      refine aw_iconst (v := 1) (by decide) dX7_mayTakeCode_39 ?_
      refine aw_goto (tgt := 44) (by decide) dX7_mayTakeCode_40 ?_
      exact aw_zret rfl (by decide) (by decide) (by decide) dX7_mayTakeCode_44 ⟨by (first | with_reducible rfl | (simp [cs_may, wd_w_row, row_self, row_row, b1, b2]; done) | (simp_all [cs_may, wd_w_row, row_self, row_row, b1, b2]; done)), by (first | with_reducible rfl | (simp [cs_may, wd_w_row, row_self, row_row, b1, b2]; done) | (simp_all [cs_may, wd_w_row, row_self, row_row, b1, b2]; done))⟩
theorem ct_X7_planTests_none {ad : Nat → Nat → Nat → Nat} {o : wd_S} {n m : Nat} (G : cg (o.1 0) n m) {x y z : Int32} (hx : lk n x = none) : CT ad MX7_planTests [.ref (ad 7 0 0), .int x, .int y, .int z] o (XT eI o) := by
  refine CT.of (L := [some (.ref (ad 7 0 0)), some (.int x), some (.int y), some (.int z), none]) rfl rfl (by decide) (Nat.le_of_ble_eq_true rfl) rfl ?_
  refine aw_aload_n (x := ad 7 0 0) rfl dX7_planTests_0 ?_
  refine aw_iload_n (x := x) rfl dX7_planTests_1 ?_
  exact aw_xV (As := [.int x]) (S := []) (ct_X7_knownLoop_none G hx) (mm_fit_of cbX7_knownLoop (by decide) (by decide)) wq460 cvX7_knownLoop wv7 rfl rfl rfl (Nat.le_of_ble_eq_true rfl) (by decide) (by decide) rfl dX7_planTests_2 ⟨rfl, by first | rfl | (simp [wd_w_row, row_self, row_row]; done) | (simp_all [wd_w_row, row_self, row_row]; done)⟩
theorem ct_X7_planTests_bad {ad : Nat → Nat → Nat → Nat} {o : wd_S} {n m l : Nat} (G : cg (o.1 0) n m) {x y z : Int32} (hx : lk n x = some l) (hb : y < 1 ∨ y > z ∨ z > 12) : CT ad MX7_planTests [.ref (ad 7 0 0), .int x, .int y, .int z] o (XT eA o) := by
  have hxl := (lk_some hx).2
  have g2 := G.2.1
  refine CT.of (L := [some (.ref (ad 7 0 0)), some (.int x), some (.int y), some (.int z), none]) rfl rfl (by decide) (Nat.le_of_ble_eq_true rfl) rfl ?_
  refine aw_aload_n (x := ad 7 0 0) rfl dX7_planTests_0 ?_
  refine aw_iload_n (x := x) rfl dX7_planTests_1 ?_
  refine aw_rV (As := [.int x]) (S := []) (v := some (.ref (ad 1 0 l))) (o2 := o) (ct_X7_knownLoop_some G hx) (mm_fit_of cbX7_knownLoop (by decide) (by decide)) wq460 cvX7_knownLoop wv7 rfl rfl rfl (Nat.le_of_ble_eq_true rfl) (by decide) (by decide) rfl dX7_planTests_2 ?_
  refine aw_astore (L2 := [some (.ref (ad 7 0 0)), some (.int x), some (.int y), some (.int z), some (.ref (ad 1 0 l))]) (by decide) rfl rfl dX7_planTests_5 ?_
  refine aw_iload_n (x := y) rfl dX7_planTests_7 ?_
  refine aw_iconst (v := 1) (by decide) dX7_planTests_8 ?_
  refine aw_icmp_lt (tgt := 23) (by decide) dX7_planTests_9 (fun b1 => ?_) (fun b1 => ?_)
  · skip
    exact aw_throwW th70_74 rfl (text := "not 1 <= from <= to <= 12") (by decide) rfl dX7_planTests_23 dX7_planTests_26 dX7_planTests_27 dX7_planTests_30 dX7_planTests_33 (by decide) (Nat.le_of_ble_eq_true rfl) (by decide) (by decide) ⟨rfl, by first | rfl | (simp [wd_w_row, row_self, row_row, b1]; done) | (simp_all [wd_w_row, row_self, row_row, b1]; done)⟩
  · skip
    refine aw_iload_n (x := y) rfl dX7_planTests_12 ?_
    refine aw_iload_n (x := z) rfl dX7_planTests_13 ?_
    refine aw_icmp_gt (tgt := 23) (by decide) dX7_planTests_14 (fun b2 => ?_) (fun b2 => ?_)
    · skip
      exact aw_throwW th70_74 rfl (text := "not 1 <= from <= to <= 12") (by decide) rfl dX7_planTests_23 dX7_planTests_26 dX7_planTests_27 dX7_planTests_30 dX7_planTests_33 (by decide) (Nat.le_of_ble_eq_true rfl) (by decide) (by decide) ⟨rfl, by first | rfl | (simp [wd_w_row, row_self, row_row, b1, b2]; done) | (simp_all [wd_w_row, row_self, row_row, b1, b2]; done)⟩
    · skip
      refine aw_iload_n (x := z) rfl dX7_planTests_17 ?_
      refine aw_bipush (v := 12) (by decide) dX7_planTests_18 ?_
      refine aw_icmp_le (tgt := 34) (by decide) dX7_planTests_20 (fun z => absurd z (by rcases hb with h | h | h; exact absurd h b1; exact absurd h b2; exact Int32.not_le.mpr h)) (fun _ => ?_)
      exact aw_throwW th70_74 rfl (text := "not 1 <= from <= to <= 12") (by decide) rfl dX7_planTests_23 dX7_planTests_26 dX7_planTests_27 dX7_planTests_30 dX7_planTests_33 (by decide) (Nat.le_of_ble_eq_true rfl) (by decide) (by decide) ⟨rfl, by first | rfl | (simp [wd_w_row, row_self, row_row, b1, b2]; done) | (simp_all [wd_w_row, row_self, row_row, b1, b2]; done)⟩
theorem ct_X7_planTests_ok {ad : Nat → Nat → Nat → Nat} {o : wd_S} {n m l a b : Nat} (G : cg (o.1 0) n m) {x : Int32} (hx : lk n x = some l) (ha : 1 ≤ a) (hab : a ≤ b) (hb : b ≤ 12) : CT ad MX7_planTests [.ref (ad 7 0 0), .int x, .int (nI a), .int (nI b)] o (RT none (wt2 o (cs_plan (cs_rk (o.1 0) l) a b (o.1 6, o.1 7)))) := by
  have hxl := (lk_some hx).2
  have g2 := G.2.1
  refine CT.of (L := [some (.ref (ad 7 0 0)), some (.int x), some (.int (nI a)), some (.int (nI b)), none]) rfl rfl (by decide) (Nat.le_of_ble_eq_true rfl) rfl ?_
  refine aw_aload_n (x := ad 7 0 0) rfl dX7_planTests_0 ?_
  refine aw_iload_n (x := x) rfl dX7_planTests_1 ?_
  refine aw_rV (As := [.int x]) (S := []) (v := some (.ref (ad 1 0 l))) (o2 := o) (ct_X7_knownLoop_some G hx) (mm_fit_of cbX7_knownLoop (by decide) (by decide)) wq460 cvX7_knownLoop wv7 rfl rfl rfl (Nat.le_of_ble_eq_true rfl) (by decide) (by decide) rfl dX7_planTests_2 ?_
  refine aw_astore (L2 := [some (.ref (ad 7 0 0)), some (.int x), some (.int (nI a)), some (.int (nI b)), some (.ref (ad 1 0 l))]) (by decide) rfl rfl dX7_planTests_5 ?_
  refine aw_iload_n (x := (nI a)) rfl dX7_planTests_7 ?_
  refine aw_iconst (v := 1) (by decide) dX7_planTests_8 ?_
  refine aw_icmp_lt (tgt := 23) (by decide) dX7_planTests_9 (fun z => absurd z (nI_nlt (b := 1) ha (by omega))) (fun _ => ?_)
  refine aw_iload_n (x := (nI a)) rfl dX7_planTests_12 ?_
  refine aw_iload_n (x := (nI b)) rfl dX7_planTests_13 ?_
  refine aw_icmp_gt (tgt := 23) (by decide) dX7_planTests_14 (fun z => absurd z (nI_nlt hab (by omega))) (fun _ => ?_)
  refine aw_iload_n (x := (nI b)) rfl dX7_planTests_17 ?_
  refine aw_bipush (v := 12) (by decide) dX7_planTests_18 ?_
  refine aw_icmp_le (tgt := 34) (by decide) dX7_planTests_20 (fun _ => ?_) (fun z => absurd (nI_le (b := 12) hb (by decide)) z)
  refine aw_aload_n (x := ad 7 0 0) rfl dX7_planTests_34 ?_
  refine aw_getr (q := (11, 0, 0)) wv7 rfl flX7_35 rfl rfl dX7_planTests_35 ?_
  refine aw_aload (x := ad 1 0 l) rfl dX7_planTests_38 ?_
  refine aw_getr (q := (2, 0, l)) (wv1 (by decide) (by omega)) rfl flX7_250 rfl rfl dX7_planTests_40 ?_
  refine aw_iload_n (x := (nI a)) rfl dX7_planTests_43 ?_
  refine aw_iload_n (x := (nI b)) rfl dX7_planTests_44 ?_
  refine aw_rV (v := none) (o2 := (wt2 o (cs_plan (cs_rk (o.1 0) l) a b (o.1 6, o.1 7)))) (ct_X4_plan (by omega) ha hab hb) (mm_fit_of cbX4_plan (by decide) (by decide)) wq840 cvX4_plan wv11 rfl rfl rfl (Nat.le_of_ble_eq_true rfl) (by decide) (by decide) rfl dX7_planTests_45 ?_
  exact aw_vret rfl (by decide) (by decide) dX7_planTests_48 ⟨rfl, by first | rfl | (simp [wd_w_row, row_self, row_row]; done) | (simp_all [wd_w_row, row_self, row_row]; done)⟩
theorem ct_X7_phaseOf {ad : Nat → Nat → Nat → Nat} {o : wd_S} {n m l s : Nat} (G : cg (o.1 0) n m) (hl : l < n) (hs : s < m) (hh : o.1 0 (101 + 8 * s + 1) = nI l) : CT ad MX7_phaseOfLoopOf [.ref (ad 7 0 0), .ref (ad 3 0 s)] o (RT (some (.int (o.1 0 (20 * l + 1)))) o) := by
  obtain ⟨g1, g2, g3, g4, g5, g6⟩ := id G
  have hl5 : l < 5 := by omega
  have hs16 : s < 16 := by omega
  refine CT.of (L := [some (.ref (ad 7 0 0)), some (.ref (ad 3 0 s)), none]) rfl rfl (by decide) (Nat.le_of_ble_eq_true rfl) rfl ?_
  refine aw_aload_n (x := ad 7 0 0) rfl dX7_phaseOfLoopOf_0 ?_
  refine aw_getr (q := (0, 0, 0)) wv7 rfl flX7_10 rfl rfl dX7_phaseOfLoopOf_1 ?_
  refine aw_aload_n (x := ad 3 0 s) rfl dX7_phaseOfLoopOf_4 ?_
  refine aw_geti (q := (0, 101 + 8 * s + 1)) (x := nI l) (wv3 (by decide) (by omega)) rfl hh flX7_144 rfl (Or.inl rfl) dX7_phaseOfLoopOf_5 ?_
  refine aw_rV (As := [.int (nI l)]) (S := []) (v := some (.ref (ad 1 0 l))) (o2 := o) (ct_X5_loopAt_some G hl) (mm_fit_of cbX5_loopAt (by decide) (by decide)) wq259 cvX5_loopAt (wv0 (by decide)) rfl rfl rfl (Nat.le_of_ble_eq_true rfl) (by decide) (by decide) rfl dX7_phaseOfLoopOf_8 ?_
  refine aw_astore_n (L2 := [some (.ref (ad 7 0 0)), some (.ref (ad 3 0 s)), some (.ref (ad 1 0 l))]) (by decide) rfl rfl dX7_phaseOfLoopOf_11 ?_
  refine aw_aload_n (x := ad 1 0 l) rfl dX7_phaseOfLoopOf_12 ?_
  refine aw_ifnonnull (tgt := 20) (by decide) dX7_phaseOfLoopOf_13 ?_
  refine aw_aload_n (x := ad 1 0 l) rfl dX7_phaseOfLoopOf_20 ?_
  refine aw_geti (q := (0, 20 * l + 1)) (x := o.1 0 (20 * l + 1)) (wv1 (by decide) (by omega)) rfl rfl flX7_150 rfl (Or.inl rfl) dX7_phaseOfLoopOf_21 ?_
  exact aw_iret rfl (by decide) (by decide) dX7_phaseOfLoopOf_24 ⟨by (first | with_reducible rfl | (simp [wd_w_row, row_self, row_row]; done) | (simp_all [wd_w_row, row_self, row_row]; done)), by (first | with_reducible rfl | (simp [wd_w_row, row_self, row_row]; done) | (simp_all [wd_w_row, row_self, row_row]; done))⟩
def cs_01 (x : Int32) : Int32 := if x = 0 then 0 else 1
def cs_sval (B : Nat → Int32) (l s : Nat) (w : Int32) : Int32 := if w = 0 then B (101 + 8 * s + 3) else if w = 1 then cs_01 (B (101 + 8 * s + 4)) else if w = 2 then B (101 + 8 * s + 5) else if w = 3 then nI l else if w = 4 then B (101 + 8 * s + 2) else if w = 5 then cs_01 (B (101 + 8 * s + 6)) else if w = 6 then cs_stand B l s else B (101 + 8 * s + 8)
def cs_lval (B : Nat → Int32) (m l : Nat) (w : Int32) : Int32 := if w = 0 then B (20 * l + 1) else if w = 1 then B (20 * l + 2) else if w = 2 then B (20 * l + 3) else if w = 3 then B (20 * l + 4) else if w = 4 then B (20 * l + 5) else if w = 5 then cs_01 (B (20 * l + 6)) else if w = 6 then B (20 * l + 7) else if w = 7 then cs_01 (B (20 * l + 8)) else sumF (cs_mem B m l) 16 0
theorem ct_X7_sval_0 {ad : Nat → Nat → Nat → Nat} {o : wd_S} {n m l s : Nat} (G : cg (o.1 0) n m) (hl : l < n) (hs : s < m) (hh : o.1 0 (101 + 8 * s + 1) = nI l) : CT ad MX7_subscriberValue [.ref (ad 7 0 0), .ref (ad 3 0 s), .int 0] o (RT (some (.int (cs_sval (o.1 0) l s 0))) o) := by
  obtain ⟨g1, g2, g3, g4, g5, g6⟩ := id G
  have hl5 : l < 5 := by omega
  have hs16 : s < 16 := by omega
  refine CT.of (L := [some (.ref (ad 7 0 0)), some (.ref (ad 3 0 s)), some (.int 0)]) rfl rfl (by decide) (Nat.le_of_ble_eq_true rfl) rfl ?_
  refine aw_iload_n (x := 0) rfl dX7_subscriberValue_0 ?_
  refine aw_tableIn (off := 43) (tgt := 44) (by decide) (by decide) (by decide) (by decide) dX7_subscriberValue_1 ?_
  refine aw_aload_n (x := ad 3 0 s) rfl dX7_subscriberValue_44 ?_
  refine aw_geti (q := (0, 101 + 8 * s + 3)) (x := o.1 0 (101 + 8 * s + 3)) (wv3 (by decide) (by omega)) rfl rfl flX7_108 rfl (Or.inl rfl) dX7_subscriberValue_45 ?_
  exact aw_iret rfl (by decide) (by decide) dX7_subscriberValue_48 ⟨by (first | with_reducible rfl | (simp [cs_sval, cs_01, wd_w_row, row_self, row_row]; done) | (simp_all [cs_sval, cs_01, wd_w_row, row_self, row_row]; done)), by (first | with_reducible rfl | (simp [cs_sval, cs_01, wd_w_row, row_self, row_row]; done) | (simp_all [cs_sval, cs_01, wd_w_row, row_self, row_row]; done))⟩
theorem ct_X7_sval_1 {ad : Nat → Nat → Nat → Nat} {o : wd_S} {n m l s : Nat} (G : cg (o.1 0) n m) (hl : l < n) (hs : s < m) (hh : o.1 0 (101 + 8 * s + 1) = nI l) : CT ad MX7_subscriberValue [.ref (ad 7 0 0), .ref (ad 3 0 s), .int 1] o (RT (some (.int (cs_sval (o.1 0) l s 1))) o) := by
  obtain ⟨g1, g2, g3, g4, g5, g6⟩ := id G
  have hl5 : l < 5 := by omega
  have hs16 : s < 16 := by omega
  refine CT.of (L := [some (.ref (ad 7 0 0)), some (.ref (ad 3 0 s)), some (.int 1)]) rfl rfl (by decide) (Nat.le_of_ble_eq_true rfl) rfl ?_
  refine aw_iload_n (x := 1) rfl dX7_subscriberValue_0 ?_
  refine aw_tableIn (off := 48) (tgt := 49) (by decide) (by decide) (by decide) (by decide) dX7_subscriberValue_1 ?_
  refine aw_aload_n (x := ad 3 0 s) rfl dX7_subscriberValue_49 ?_
  refine aw_geti (q := (0, 101 + 8 * s + 4)) (x := o.1 0 (101 + 8 * s + 4)) (wv3 (by decide) (by omega)) rfl rfl flX7_113 rfl (Or.inr rfl) dX7_subscriberValue_50 ?_
  refine aw_if_eq (tgt := 60) (by decide) dX7_subscriberValue_53 (fun b1 => ?_) (fun b1 => ?_)
  · skip
    refine aw_iconst (v := 0) (by decide) dX7_subscriberValue_60 ?_
    exact aw_iret rfl (by decide) (by decide) dX7_subscriberValue_61 ⟨by (first | with_reducible rfl | (simp [cs_sval, cs_01, wd_w_row, row_self, row_row, b1]; done) | (simp_all [cs_sval, cs_01, wd_w_row, row_self, row_row, b1]; done)), by (first | with_reducible rfl | (simp [cs_sval, cs_01, wd_w_row, row_self, row_row, b1]; done) | (simp_all [cs_sval, cs_01, wd_w_row, row_self, row_row, b1]; done))⟩
  · skip
    refine aw_iconst (v := 1) (by decide) dX7_subscriberValue_56 ?_
    refine aw_goto (tgt := 61) (by decide) dX7_subscriberValue_57 ?_
    exact aw_iret rfl (by decide) (by decide) dX7_subscriberValue_61 ⟨by (first | with_reducible rfl | (simp [cs_sval, cs_01, wd_w_row, row_self, row_row, b1]; done) | (simp_all [cs_sval, cs_01, wd_w_row, row_self, row_row, b1]; done)), by (first | with_reducible rfl | (simp [cs_sval, cs_01, wd_w_row, row_self, row_row, b1]; done) | (simp_all [cs_sval, cs_01, wd_w_row, row_self, row_row, b1]; done))⟩
theorem ct_X7_sval_2 {ad : Nat → Nat → Nat → Nat} {o : wd_S} {n m l s : Nat} (G : cg (o.1 0) n m) (hl : l < n) (hs : s < m) (hh : o.1 0 (101 + 8 * s + 1) = nI l) : CT ad MX7_subscriberValue [.ref (ad 7 0 0), .ref (ad 3 0 s), .int 2] o (RT (some (.int (cs_sval (o.1 0) l s 2))) o) := by
  obtain ⟨g1, g2, g3, g4, g5, g6⟩ := id G
  have hl5 : l < 5 := by omega
  have hs16 : s < 16 := by omega
  refine CT.of (L := [some (.ref (ad 7 0 0)), some (.ref (ad 3 0 s)), some (.int 2)]) rfl rfl (by decide) (Nat.le_of_ble_eq_true rfl) rfl ?_
  refine aw_iload_n (x := 2) rfl dX7_subscriberValue_0 ?_
  refine aw_tableIn (off := 61) (tgt := 62) (by decide) (by decide) (by decide) (by decide) dX7_subscriberValue_1 ?_
  refine aw_aload_n (x := ad 3 0 s) rfl dX7_subscriberValue_62 ?_
  refine aw_geti (q := (0, 101 + 8 * s + 5)) (x := o.1 0 (101 + 8 * s + 5)) (wv3 (by decide) (by omega)) rfl rfl flX7_117 rfl (Or.inl rfl) dX7_subscriberValue_63 ?_
  exact aw_iret rfl (by decide) (by decide) dX7_subscriberValue_66 ⟨by (first | with_reducible rfl | (simp [cs_sval, cs_01, wd_w_row, row_self, row_row]; done) | (simp_all [cs_sval, cs_01, wd_w_row, row_self, row_row]; done)), by (first | with_reducible rfl | (simp [cs_sval, cs_01, wd_w_row, row_self, row_row]; done) | (simp_all [cs_sval, cs_01, wd_w_row, row_self, row_row]; done))⟩
theorem ct_X7_sval_3 {ad : Nat → Nat → Nat → Nat} {o : wd_S} {n m l s : Nat} (G : cg (o.1 0) n m) (hl : l < n) (hs : s < m) (hh : o.1 0 (101 + 8 * s + 1) = nI l) : CT ad MX7_subscriberValue [.ref (ad 7 0 0), .ref (ad 3 0 s), .int 3] o (RT (some (.int (cs_sval (o.1 0) l s 3))) o) := by
  obtain ⟨g1, g2, g3, g4, g5, g6⟩ := id G
  have hl5 : l < 5 := by omega
  have hs16 : s < 16 := by omega
  refine CT.of (L := [some (.ref (ad 7 0 0)), some (.ref (ad 3 0 s)), some (.int 3)]) rfl rfl (by decide) (Nat.le_of_ble_eq_true rfl) rfl ?_
  refine aw_iload_n (x := 3) rfl dX7_subscriberValue_0 ?_
  refine aw_tableIn (off := 66) (tgt := 67) (by decide) (by decide) (by decide) (by decide) dX7_subscriberValue_1 ?_
  refine aw_aload_n (x := ad 3 0 s) rfl dX7_subscriberValue_67 ?_
  refine aw_geti (q := (0, 101 + 8 * s + 1)) (x := nI l) (wv3 (by decide) (by omega)) rfl hh flX7_144 rfl (Or.inl rfl) dX7_subscriberValue_68 ?_
  exact aw_iret rfl (by decide) (by decide) dX7_subscriberValue_71 ⟨by (first | with_reducible rfl | (simp [cs_sval, cs_01, wd_w_row, row_self, row_row]; done) | (simp_all [cs_sval, cs_01, wd_w_row, row_self, row_row]; done)), by (first | with_reducible rfl | (simp [cs_sval, cs_01, wd_w_row, row_self, row_row]; done) | (simp_all [cs_sval, cs_01, wd_w_row, row_self, row_row]; done))⟩
theorem ct_X7_sval_4 {ad : Nat → Nat → Nat → Nat} {o : wd_S} {n m l s : Nat} (G : cg (o.1 0) n m) (hl : l < n) (hs : s < m) (hh : o.1 0 (101 + 8 * s + 1) = nI l) : CT ad MX7_subscriberValue [.ref (ad 7 0 0), .ref (ad 3 0 s), .int 4] o (RT (some (.int (cs_sval (o.1 0) l s 4))) o) := by
  obtain ⟨g1, g2, g3, g4, g5, g6⟩ := id G
  have hl5 : l < 5 := by omega
  have hs16 : s < 16 := by omega
  refine CT.of (L := [some (.ref (ad 7 0 0)), some (.ref (ad 3 0 s)), some (.int 4)]) rfl rfl (by decide) (Nat.le_of_ble_eq_true rfl) rfl ?_
  refine aw_iload_n (x := 4) rfl dX7_subscriberValue_0 ?_
  refine aw_tableIn (off := 71) (tgt := 72) (by decide) (by decide) (by decide) (by decide) dX7_subscriberValue_1 ?_
  refine aw_aload_n (x := ad 3 0 s) rfl dX7_subscriberValue_72 ?_
  refine aw_geti (q := (0, 101 + 8 * s + 2)) (x := o.1 0 (101 + 8 * s + 2)) (wv3 (by decide) (by omega)) rfl rfl flX7_304 rfl (Or.inl rfl) dX7_subscriberValue_73 ?_
  exact aw_iret rfl (by decide) (by decide) dX7_subscriberValue_76 ⟨by (first | with_reducible rfl | (simp [cs_sval, cs_01, wd_w_row, row_self, row_row]; done) | (simp_all [cs_sval, cs_01, wd_w_row, row_self, row_row]; done)), by (first | with_reducible rfl | (simp [cs_sval, cs_01, wd_w_row, row_self, row_row]; done) | (simp_all [cs_sval, cs_01, wd_w_row, row_self, row_row]; done))⟩
theorem ct_X7_sval_5 {ad : Nat → Nat → Nat → Nat} {o : wd_S} {n m l s : Nat} (G : cg (o.1 0) n m) (hl : l < n) (hs : s < m) (hh : o.1 0 (101 + 8 * s + 1) = nI l) : CT ad MX7_subscriberValue [.ref (ad 7 0 0), .ref (ad 3 0 s), .int 5] o (RT (some (.int (cs_sval (o.1 0) l s 5))) o) := by
  obtain ⟨g1, g2, g3, g4, g5, g6⟩ := id G
  have hl5 : l < 5 := by omega
  have hs16 : s < 16 := by omega
  refine CT.of (L := [some (.ref (ad 7 0 0)), some (.ref (ad 3 0 s)), some (.int 5)]) rfl rfl (by decide) (Nat.le_of_ble_eq_true rfl) rfl ?_
  refine aw_iload_n (x := 5) rfl dX7_subscriberValue_0 ?_
  refine aw_tableIn (off := 76) (tgt := 77) (by decide) (by decide) (by decide) (by decide) dX7_subscriberValue_1 ?_
  refine aw_aload_n (x := ad 3 0 s) rfl dX7_subscriberValue_77 ?_
  refine aw_geti (q := (0, 101 + 8 * s + 6)) (x := o.1 0 (101 + 8 * s + 6)) (wv3 (by decide) (by omega)) rfl rfl flX7_126 rfl (Or.inr rfl) dX7_subscriberValue_78 ?_
  refine aw_if_eq (tgt := 88) (by decide) dX7_subscriberValue_81 (fun b1 => ?_) (fun b1 => ?_)
  · skip
    refine aw_iconst (v := 0) (by decide) dX7_subscriberValue_88 ?_
    exact aw_iret rfl (by decide) (by decide) dX7_subscriberValue_89 ⟨by (first | with_reducible rfl | (simp [cs_sval, cs_01, wd_w_row, row_self, row_row, b1]; done) | (simp_all [cs_sval, cs_01, wd_w_row, row_self, row_row, b1]; done)), by (first | with_reducible rfl | (simp [cs_sval, cs_01, wd_w_row, row_self, row_row, b1]; done) | (simp_all [cs_sval, cs_01, wd_w_row, row_self, row_row, b1]; done))⟩
  · skip
    refine aw_iconst (v := 1) (by decide) dX7_subscriberValue_84 ?_
    refine aw_goto (tgt := 89) (by decide) dX7_subscriberValue_85 ?_
    exact aw_iret rfl (by decide) (by decide) dX7_subscriberValue_89 ⟨by (first | with_reducible rfl | (simp [cs_sval, cs_01, wd_w_row, row_self, row_row, b1]; done) | (simp_all [cs_sval, cs_01, wd_w_row, row_self, row_row, b1]; done)), by (first | with_reducible rfl | (simp [cs_sval, cs_01, wd_w_row, row_self, row_row, b1]; done) | (simp_all [cs_sval, cs_01, wd_w_row, row_self, row_row, b1]; done))⟩
theorem ct_X7_sval_6 {ad : Nat → Nat → Nat → Nat} {o : wd_S} {n m l s : Nat} (G : cg (o.1 0) n m) (hl : l < n) (hs : s < m) (hh : o.1 0 (101 + 8 * s + 1) = nI l) : CT ad MX7_subscriberValue [.ref (ad 7 0 0), .ref (ad 3 0 s), .int 6] o (RT (some (.int (cs_sval (o.1 0) l s 6))) o) := by
  obtain ⟨g1, g2, g3, g4, g5, g6⟩ := id G
  have hl5 : l < 5 := by omega
  have hs16 : s < 16 := by omega
  refine CT.of (L := [some (.ref (ad 7 0 0)), some (.ref (ad 3 0 s)), some (.int 6)]) rfl rfl (by decide) (Nat.le_of_ble_eq_true rfl) rfl ?_
  refine aw_iload_n (x := 6) rfl dX7_subscriberValue_0 ?_
  refine aw_tableIn (off := 89) (tgt := 90) (by decide) (by decide) (by decide) (by decide) dX7_subscriberValue_1 ?_
  refine aw_aload_n (x := ad 7 0 0) rfl dX7_subscriberValue_90 ?_
  refine aw_getr (q := (0, 0, 0)) wv7 rfl flX7_10 rfl rfl dX7_subscriberValue_91 ?_
  refine aw_aload_n (x := ad 3 0 s) rfl dX7_subscriberValue_94 ?_
  refine aw_rV (As := [.ref (ad 3 0 s)]) (S := []) (v := some (.int (cs_stand (o.1 0) l s))) (o2 := o) (ct_X5_standingOf G hl hs hh) (mm_fit_of cbX5_standingOf (by decide) (by decide)) wq326 cvX5_standingOf (wv0 (by decide)) rfl rfl rfl (Nat.le_of_ble_eq_true rfl) (by decide) (by decide) rfl dX7_subscriberValue_95 ?_
  exact aw_iret rfl (by decide) (by decide) dX7_subscriberValue_98 ⟨by (first | with_reducible rfl | (simp [cs_sval, cs_01, wd_w_row, row_self, row_row]; done) | (simp_all [cs_sval, cs_01, wd_w_row, row_self, row_row]; done)), by (first | with_reducible rfl | (simp [cs_sval, cs_01, wd_w_row, row_self, row_row]; done) | (simp_all [cs_sval, cs_01, wd_w_row, row_self, row_row]; done))⟩
theorem ct_X7_sval_7 {ad : Nat → Nat → Nat → Nat} {o : wd_S} {n m l s : Nat} (G : cg (o.1 0) n m) (hl : l < n) (hs : s < m) (hh : o.1 0 (101 + 8 * s + 1) = nI l) : CT ad MX7_subscriberValue [.ref (ad 7 0 0), .ref (ad 3 0 s), .int 7] o (RT (some (.int (cs_sval (o.1 0) l s 7))) o) := by
  obtain ⟨g1, g2, g3, g4, g5, g6⟩ := id G
  have hl5 : l < 5 := by omega
  have hs16 : s < 16 := by omega
  refine CT.of (L := [some (.ref (ad 7 0 0)), some (.ref (ad 3 0 s)), some (.int 7)]) rfl rfl (by decide) (Nat.le_of_ble_eq_true rfl) rfl ?_
  refine aw_iload_n (x := 7) rfl dX7_subscriberValue_0 ?_
  refine aw_tableOut (tgt := 99) (by decide) (by decide) dX7_subscriberValue_1 ?_
  refine aw_aload_n (x := ad 3 0 s) rfl dX7_subscriberValue_99 ?_
  refine aw_geti (q := (0, 101 + 8 * s + 8)) (x := o.1 0 (101 + 8 * s + 8)) (wv3 (by decide) (by omega)) rfl rfl flX7_310 rfl (Or.inl rfl) dX7_subscriberValue_100 ?_
  exact aw_iret rfl (by decide) (by decide) dX7_subscriberValue_103 ⟨by (first | with_reducible rfl | (simp [cs_sval, cs_01, wd_w_row, row_self, row_row]; done) | (simp_all [cs_sval, cs_01, wd_w_row, row_self, row_row]; done)), by (first | with_reducible rfl | (simp [cs_sval, cs_01, wd_w_row, row_self, row_row]; done) | (simp_all [cs_sval, cs_01, wd_w_row, row_self, row_row]; done))⟩
theorem ct_X7_lval_0 {ad : Nat → Nat → Nat → Nat} {o : wd_S} {n m l : Nat} (G : cg (o.1 0) n m) (hl : l < 5) : CT ad MX7_loopValue [.ref (ad 7 0 0), .ref (ad 1 0 l), .int 0] o (RT (some (.int (cs_lval (o.1 0) m l 0))) o) := by
  obtain ⟨g1, g2, g3, g4, g5, g6⟩ := id G
  refine CT.of (L := [some (.ref (ad 7 0 0)), some (.ref (ad 1 0 l)), some (.int 0)]) rfl rfl (by decide) (Nat.le_of_ble_eq_true rfl) rfl ?_
  refine aw_iload_n (x := 0) rfl dX7_loopValue_0 ?_
  refine aw_tableIn (off := 47) (tgt := 48) (by decide) (by decide) (by decide) (by decide) dX7_loopValue_1 ?_
  refine aw_aload_n (x := ad 1 0 l) rfl dX7_loopValue_48 ?_
  refine aw_geti (q := (0, 20 * l + 1)) (x := o.1 0 (20 * l + 1)) (wv1 (by decide) hl) rfl rfl flX7_150 rfl (Or.inl rfl) dX7_loopValue_49 ?_
  exact aw_iret rfl (by decide) (by decide) dX7_loopValue_52 ⟨by (first | with_reducible rfl | (simp [cs_lval, cs_01, wd_w_row, row_self, row_row]; done) | (simp_all [cs_lval, cs_01, wd_w_row, row_self, row_row]; done)), by (first | with_reducible rfl | (simp [cs_lval, cs_01, wd_w_row, row_self, row_row]; done) | (simp_all [cs_lval, cs_01, wd_w_row, row_self, row_row]; done))⟩
theorem ct_X7_lval_1 {ad : Nat → Nat → Nat → Nat} {o : wd_S} {n m l : Nat} (G : cg (o.1 0) n m) (hl : l < 5) : CT ad MX7_loopValue [.ref (ad 7 0 0), .ref (ad 1 0 l), .int 1] o (RT (some (.int (cs_lval (o.1 0) m l 1))) o) := by
  obtain ⟨g1, g2, g3, g4, g5, g6⟩ := id G
  refine CT.of (L := [some (.ref (ad 7 0 0)), some (.ref (ad 1 0 l)), some (.int 1)]) rfl rfl (by decide) (Nat.le_of_ble_eq_true rfl) rfl ?_
  refine aw_iload_n (x := 1) rfl dX7_loopValue_0 ?_
  refine aw_tableIn (off := 52) (tgt := 53) (by decide) (by decide) (by decide) (by decide) dX7_loopValue_1 ?_
  refine aw_aload_n (x := ad 1 0 l) rfl dX7_loopValue_53 ?_
  refine aw_geti (q := (0, 20 * l + 2)) (x := o.1 0 (20 * l + 2)) (wv1 (by decide) hl) rfl rfl flX7_313 rfl (Or.inl rfl) dX7_loopValue_54 ?_
  exact aw_iret rfl (by decide) (by decide) dX7_loopValue_57 ⟨by (first | with_reducible rfl | (simp [cs_lval, cs_01, wd_w_row, row_self, row_row]; done) | (simp_all [cs_lval, cs_01, wd_w_row, row_self, row_row]; done)), by (first | with_reducible rfl | (simp [cs_lval, cs_01, wd_w_row, row_self, row_row]; done) | (simp_all [cs_lval, cs_01, wd_w_row, row_self, row_row]; done))⟩
theorem ct_X7_lval_2 {ad : Nat → Nat → Nat → Nat} {o : wd_S} {n m l : Nat} (G : cg (o.1 0) n m) (hl : l < 5) : CT ad MX7_loopValue [.ref (ad 7 0 0), .ref (ad 1 0 l), .int 2] o (RT (some (.int (cs_lval (o.1 0) m l 2))) o) := by
  obtain ⟨g1, g2, g3, g4, g5, g6⟩ := id G
  refine CT.of (L := [some (.ref (ad 7 0 0)), some (.ref (ad 1 0 l)), some (.int 2)]) rfl rfl (by decide) (Nat.le_of_ble_eq_true rfl) rfl ?_
  refine aw_iload_n (x := 2) rfl dX7_loopValue_0 ?_
  refine aw_tableIn (off := 57) (tgt := 58) (by decide) (by decide) (by decide) (by decide) dX7_loopValue_1 ?_
  refine aw_aload_n (x := ad 1 0 l) rfl dX7_loopValue_58 ?_
  refine aw_geti (q := (0, 20 * l + 3)) (x := o.1 0 (20 * l + 3)) (wv1 (by decide) hl) rfl rfl flX7_155 rfl (Or.inl rfl) dX7_loopValue_59 ?_
  exact aw_iret rfl (by decide) (by decide) dX7_loopValue_62 ⟨by (first | with_reducible rfl | (simp [cs_lval, cs_01, wd_w_row, row_self, row_row]; done) | (simp_all [cs_lval, cs_01, wd_w_row, row_self, row_row]; done)), by (first | with_reducible rfl | (simp [cs_lval, cs_01, wd_w_row, row_self, row_row]; done) | (simp_all [cs_lval, cs_01, wd_w_row, row_self, row_row]; done))⟩
theorem ct_X7_lval_3 {ad : Nat → Nat → Nat → Nat} {o : wd_S} {n m l : Nat} (G : cg (o.1 0) n m) (hl : l < 5) : CT ad MX7_loopValue [.ref (ad 7 0 0), .ref (ad 1 0 l), .int 3] o (RT (some (.int (cs_lval (o.1 0) m l 3))) o) := by
  obtain ⟨g1, g2, g3, g4, g5, g6⟩ := id G
  refine CT.of (L := [some (.ref (ad 7 0 0)), some (.ref (ad 1 0 l)), some (.int 3)]) rfl rfl (by decide) (Nat.le_of_ble_eq_true rfl) rfl ?_
  refine aw_iload_n (x := 3) rfl dX7_loopValue_0 ?_
  refine aw_tableIn (off := 62) (tgt := 63) (by decide) (by decide) (by decide) (by decide) dX7_loopValue_1 ?_
  refine aw_aload_n (x := ad 1 0 l) rfl dX7_loopValue_63 ?_
  refine aw_geti (q := (0, 20 * l + 4)) (x := o.1 0 (20 * l + 4)) (wv1 (by decide) hl) rfl rfl flX7_316 rfl (Or.inl rfl) dX7_loopValue_64 ?_
  exact aw_iret rfl (by decide) (by decide) dX7_loopValue_67 ⟨by (first | with_reducible rfl | (simp [cs_lval, cs_01, wd_w_row, row_self, row_row]; done) | (simp_all [cs_lval, cs_01, wd_w_row, row_self, row_row]; done)), by (first | with_reducible rfl | (simp [cs_lval, cs_01, wd_w_row, row_self, row_row]; done) | (simp_all [cs_lval, cs_01, wd_w_row, row_self, row_row]; done))⟩
theorem ct_X7_lval_4 {ad : Nat → Nat → Nat → Nat} {o : wd_S} {n m l : Nat} (G : cg (o.1 0) n m) (hl : l < 5) : CT ad MX7_loopValue [.ref (ad 7 0 0), .ref (ad 1 0 l), .int 4] o (RT (some (.int (cs_lval (o.1 0) m l 4))) o) := by
  obtain ⟨g1, g2, g3, g4, g5, g6⟩ := id G
  refine CT.of (L := [some (.ref (ad 7 0 0)), some (.ref (ad 1 0 l)), some (.int 4)]) rfl rfl (by decide) (Nat.le_of_ble_eq_true rfl) rfl ?_
  refine aw_iload_n (x := 4) rfl dX7_loopValue_0 ?_
  refine aw_tableIn (off := 67) (tgt := 68) (by decide) (by decide) (by decide) (by decide) dX7_loopValue_1 ?_
  refine aw_aload_n (x := ad 1 0 l) rfl dX7_loopValue_68 ?_
  refine aw_geti (q := (0, 20 * l + 5)) (x := o.1 0 (20 * l + 5)) (wv1 (by decide) hl) rfl rfl flX7_319 rfl (Or.inl rfl) dX7_loopValue_69 ?_
  exact aw_iret rfl (by decide) (by decide) dX7_loopValue_72 ⟨by (first | with_reducible rfl | (simp [cs_lval, cs_01, wd_w_row, row_self, row_row]; done) | (simp_all [cs_lval, cs_01, wd_w_row, row_self, row_row]; done)), by (first | with_reducible rfl | (simp [cs_lval, cs_01, wd_w_row, row_self, row_row]; done) | (simp_all [cs_lval, cs_01, wd_w_row, row_self, row_row]; done))⟩
theorem ct_X7_lval_5 {ad : Nat → Nat → Nat → Nat} {o : wd_S} {n m l : Nat} (G : cg (o.1 0) n m) (hl : l < 5) : CT ad MX7_loopValue [.ref (ad 7 0 0), .ref (ad 1 0 l), .int 5] o (RT (some (.int (cs_lval (o.1 0) m l 5))) o) := by
  obtain ⟨g1, g2, g3, g4, g5, g6⟩ := id G
  refine CT.of (L := [some (.ref (ad 7 0 0)), some (.ref (ad 1 0 l)), some (.int 5)]) rfl rfl (by decide) (Nat.le_of_ble_eq_true rfl) rfl ?_
  refine aw_iload_n (x := 5) rfl dX7_loopValue_0 ?_
  refine aw_tableIn (off := 72) (tgt := 73) (by decide) (by decide) (by decide) (by decide) dX7_loopValue_1 ?_
  refine aw_aload_n (x := ad 1 0 l) rfl dX7_loopValue_73 ?_
  refine aw_geti (q := (0, 20 * l + 6)) (x := o.1 0 (20 * l + 6)) (wv1 (by decide) hl) rfl rfl flX7_322 rfl (Or.inr rfl) dX7_loopValue_74 ?_
  refine aw_if_eq (tgt := 84) (by decide) dX7_loopValue_77 (fun b1 => ?_) (fun b1 => ?_)
  · skip
    refine aw_iconst (v := 0) (by decide) dX7_loopValue_84 ?_
    exact aw_iret rfl (by decide) (by decide) dX7_loopValue_85 ⟨by (first | with_reducible rfl | (simp [cs_lval, cs_01, wd_w_row, row_self, row_row, b1]; done) | (simp_all [cs_lval, cs_01, wd_w_row, row_self, row_row, b1]; done)), by (first | with_reducible rfl | (simp [cs_lval, cs_01, wd_w_row, row_self, row_row, b1]; done) | (simp_all [cs_lval, cs_01, wd_w_row, row_self, row_row, b1]; done))⟩
  · skip
    refine aw_iconst (v := 1) (by decide) dX7_loopValue_80 ?_
    refine aw_goto (tgt := 85) (by decide) dX7_loopValue_81 ?_
    exact aw_iret rfl (by decide) (by decide) dX7_loopValue_85 ⟨by (first | with_reducible rfl | (simp [cs_lval, cs_01, wd_w_row, row_self, row_row, b1]; done) | (simp_all [cs_lval, cs_01, wd_w_row, row_self, row_row, b1]; done)), by (first | with_reducible rfl | (simp [cs_lval, cs_01, wd_w_row, row_self, row_row, b1]; done) | (simp_all [cs_lval, cs_01, wd_w_row, row_self, row_row, b1]; done))⟩
theorem ct_X7_lval_6 {ad : Nat → Nat → Nat → Nat} {o : wd_S} {n m l : Nat} (G : cg (o.1 0) n m) (hl : l < 5) : CT ad MX7_loopValue [.ref (ad 7 0 0), .ref (ad 1 0 l), .int 6] o (RT (some (.int (cs_lval (o.1 0) m l 6))) o) := by
  obtain ⟨g1, g2, g3, g4, g5, g6⟩ := id G
  refine CT.of (L := [some (.ref (ad 7 0 0)), some (.ref (ad 1 0 l)), some (.int 6)]) rfl rfl (by decide) (Nat.le_of_ble_eq_true rfl) rfl ?_
  refine aw_iload_n (x := 6) rfl dX7_loopValue_0 ?_
  refine aw_tableIn (off := 85) (tgt := 86) (by decide) (by decide) (by decide) (by decide) dX7_loopValue_1 ?_
  refine aw_aload_n (x := ad 1 0 l) rfl dX7_loopValue_86 ?_
  refine aw_geti (q := (0, 20 * l + 7)) (x := o.1 0 (20 * l + 7)) (wv1 (by decide) hl) rfl rfl flX7_237 rfl (Or.inl rfl) dX7_loopValue_87 ?_
  exact aw_iret rfl (by decide) (by decide) dX7_loopValue_90 ⟨by (first | with_reducible rfl | (simp [cs_lval, cs_01, wd_w_row, row_self, row_row]; done) | (simp_all [cs_lval, cs_01, wd_w_row, row_self, row_row]; done)), by (first | with_reducible rfl | (simp [cs_lval, cs_01, wd_w_row, row_self, row_row]; done) | (simp_all [cs_lval, cs_01, wd_w_row, row_self, row_row]; done))⟩
theorem ct_X7_lval_7 {ad : Nat → Nat → Nat → Nat} {o : wd_S} {n m l : Nat} (G : cg (o.1 0) n m) (hl : l < 5) : CT ad MX7_loopValue [.ref (ad 7 0 0), .ref (ad 1 0 l), .int 7] o (RT (some (.int (cs_lval (o.1 0) m l 7))) o) := by
  obtain ⟨g1, g2, g3, g4, g5, g6⟩ := id G
  refine CT.of (L := [some (.ref (ad 7 0 0)), some (.ref (ad 1 0 l)), some (.int 7)]) rfl rfl (by decide) (Nat.le_of_ble_eq_true rfl) rfl ?_
  refine aw_iload_n (x := 7) rfl dX7_loopValue_0 ?_
  refine aw_tableIn (off := 90) (tgt := 91) (by decide) (by decide) (by decide) (by decide) dX7_loopValue_1 ?_
  refine aw_aload_n (x := ad 1 0 l) rfl dX7_loopValue_91 ?_
  refine aw_geti (q := (0, 20 * l + 8)) (x := o.1 0 (20 * l + 8)) (wv1 (by decide) hl) rfl rfl flX7_325 rfl (Or.inr rfl) dX7_loopValue_92 ?_
  refine aw_if_eq (tgt := 102) (by decide) dX7_loopValue_95 (fun b1 => ?_) (fun b1 => ?_)
  · skip
    refine aw_iconst (v := 0) (by decide) dX7_loopValue_102 ?_
    exact aw_iret rfl (by decide) (by decide) dX7_loopValue_103 ⟨by (first | with_reducible rfl | (simp [cs_lval, cs_01, wd_w_row, row_self, row_row, b1]; done) | (simp_all [cs_lval, cs_01, wd_w_row, row_self, row_row, b1]; done)), by (first | with_reducible rfl | (simp [cs_lval, cs_01, wd_w_row, row_self, row_row, b1]; done) | (simp_all [cs_lval, cs_01, wd_w_row, row_self, row_row, b1]; done))⟩
  · skip
    refine aw_iconst (v := 1) (by decide) dX7_loopValue_98 ?_
    refine aw_goto (tgt := 103) (by decide) dX7_loopValue_99 ?_
    exact aw_iret rfl (by decide) (by decide) dX7_loopValue_103 ⟨by (first | with_reducible rfl | (simp [cs_lval, cs_01, wd_w_row, row_self, row_row, b1]; done) | (simp_all [cs_lval, cs_01, wd_w_row, row_self, row_row, b1]; done)), by (first | with_reducible rfl | (simp [cs_lval, cs_01, wd_w_row, row_self, row_row, b1]; done) | (simp_all [cs_lval, cs_01, wd_w_row, row_self, row_row, b1]; done))⟩
theorem ct_X7_lval_8 {ad : Nat → Nat → Nat → Nat} {o : wd_S} {n m l : Nat} (G : cg (o.1 0) n m) (hl : l < 5) : CT ad MX7_loopValue [.ref (ad 7 0 0), .ref (ad 1 0 l), .int 8] o (RT (some (.int (cs_lval (o.1 0) m l 8))) o) := by
  obtain ⟨g1, g2, g3, g4, g5, g6⟩ := id G
  refine CT.of (L := [some (.ref (ad 7 0 0)), some (.ref (ad 1 0 l)), some (.int 8)]) rfl rfl (by decide) (Nat.le_of_ble_eq_true rfl) rfl ?_
  refine aw_iload_n (x := 8) rfl dX7_loopValue_0 ?_
  refine aw_tableOut (tgt := 104) (by decide) (by decide) dX7_loopValue_1 ?_
  refine aw_aload_n (x := ad 7 0 0) rfl dX7_loopValue_104 ?_
  refine aw_getr (q := (0, 0, 0)) wv7 rfl flX7_10 rfl rfl dX7_loopValue_105 ?_
  refine aw_aload_n (x := ad 1 0 l) rfl dX7_loopValue_108 ?_
  refine aw_rV (As := [.ref (ad 1 0 l)]) (S := []) (v := some (.int (sumF (cs_mem (o.1 0) m l) 16 0))) (o2 := o) (ct_X5_countMembers G hl) (mm_fit_of cbX5_countMembers (by decide) (by decide)) wq271 cvX5_countMembers (wv0 (by decide)) rfl rfl rfl (Nat.le_of_ble_eq_true rfl) (by decide) (by decide) rfl dX7_loopValue_109 ?_
  exact aw_iret rfl (by decide) (by decide) dX7_loopValue_112 ⟨by (first | with_reducible rfl | (simp [cs_lval, cs_01, wd_w_row, row_self, row_row]; done) | (simp_all [cs_lval, cs_01, wd_w_row, row_self, row_row]; done)), by (first | with_reducible rfl | (simp [cs_lval, cs_01, wd_w_row, row_self, row_row]; done) | (simp_all [cs_lval, cs_01, wd_w_row, row_self, row_row]; done))⟩
theorem i32_s8 {x : Int32} (h0 : ¬ x < 0) (h1 : ¬ x ≥ 8) : x = 0 ∨ x = 1 ∨ x = 2 ∨ x = 3 ∨ x = 4 ∨ x = 5 ∨ x = 6 ∨ x = 7 := by
  obtain ⟨j, hj, rfl⟩ := nI_of h0
  have hj2 : j < 8 := by
    have := Int32.not_le.mp h1
    exact (nI_ltI hj (by decide)).1 this
  rcases (show j = 0 ∨ j = 1 ∨ j = 2 ∨ j = 3 ∨ j = 4 ∨ j = 5 ∨ j = 6 ∨ j = 7 by omega) with rfl | rfl | rfl | rfl | rfl | rfl | rfl | rfl <;> decide
theorem i32_s9 {x : Int32} (h0 : ¬ x < 0) (h1 : ¬ x ≥ 9) : x = 0 ∨ x = 1 ∨ x = 2 ∨ x = 3 ∨ x = 4 ∨ x = 5 ∨ x = 6 ∨ x = 7 ∨ x = 8 := by
  obtain ⟨j, hj, rfl⟩ := nI_of h0
  have hj2 : j < 9 := by
    have := Int32.not_le.mp h1
    exact (nI_ltI hj (by decide)).1 this
  rcases (show j = 0 ∨ j = 1 ∨ j = 2 ∨ j = 3 ∨ j = 4 ∨ j = 5 ∨ j = 6 ∨ j = 7 ∨ j = 8 by omega) with rfl | rfl | rfl | rfl | rfl | rfl | rfl | rfl | rfl <;> decide
theorem ct_X7_sval {ad : Nat → Nat → Nat → Nat} {o : wd_S} {n m l s : Nat} (G : cg (o.1 0) n m) (hl : l < n) (hs : s < m) (hh : o.1 0 (101 + 8 * s + 1) = nI l) {x : Int32} (h0 : ¬ x < 0) (h1 : ¬ x ≥ 8) : CT ad MX7_subscriberValue [.ref (ad 7 0 0), .ref (ad 3 0 s), .int x] o (RT (some (.int (cs_sval (o.1 0) l s x))) o) := by
  rcases i32_s8 h0 h1 with rfl | rfl | rfl | rfl | rfl | rfl | rfl | rfl
  · exact ct_X7_sval_0 G hl hs hh
  · exact ct_X7_sval_1 G hl hs hh
  · exact ct_X7_sval_2 G hl hs hh
  · exact ct_X7_sval_3 G hl hs hh
  · exact ct_X7_sval_4 G hl hs hh
  · exact ct_X7_sval_5 G hl hs hh
  · exact ct_X7_sval_6 G hl hs hh
  · exact ct_X7_sval_7 G hl hs hh
theorem ct_X7_lval {ad : Nat → Nat → Nat → Nat} {o : wd_S} {n m l : Nat} (G : cg (o.1 0) n m) (hl : l < 5) {x : Int32} (h0 : ¬ x < 0) (h1 : ¬ x ≥ 9) : CT ad MX7_loopValue [.ref (ad 7 0 0), .ref (ad 1 0 l), .int x] o (RT (some (.int (cs_lval (o.1 0) m l x))) o) := by
  rcases i32_s9 h0 h1 with rfl | rfl | rfl | rfl | rfl | rfl | rfl | rfl | rfl
  · exact ct_X7_lval_0 G hl
  · exact ct_X7_lval_1 G hl
  · exact ct_X7_lval_2 G hl
  · exact ct_X7_lval_3 G hl
  · exact ct_X7_lval_4 G hl
  · exact ct_X7_lval_5 G hl
  · exact ct_X7_lval_6 G hl
  · exact ct_X7_lval_7 G hl
  · exact ct_X7_lval_8 G hl
def mx (h : Int64) (v : Int32) : Int64 := 31 * h + v.toInt64
def mxs : List Int32 → Int64 → Int64
  | [], h => h
  | v :: vs, h => mxs vs (mx h v)
theorem ct_X7_mix {ad : Nat → Nat → Nat → Nat} {o : wd_S} {h : Int64} {v : Int32} : CT ad MX7_mix [.long h, .long v.toInt64] o (RT (some (.long (mx h v))) o) := by
  refine CT.of (L := [some (.long h), none, some (.long v.toInt64), none]) rfl rfl (by decide) (Nat.le_of_ble_eq_true rfl) rfl ?_
  refine aw_ldc2 (v := 31) wq258 dX7_mix_0 ?_
  refine aw_lload_n (x := h) rfl dX7_mix_3 ?_
  refine aw_lmul dX7_mix_4 ?_
  refine aw_lload_n (x := v.toInt64) rfl dX7_mix_5 ?_
  refine aw_ladd dX7_mix_6 ?_
  exact aw_lret rfl (by decide) (by decide) dX7_mix_7 ⟨by first | rfl | (simp [mx, wd_w_row, row_self, row_row]; done) | (simp_all [mx, wd_w_row, row_self, row_row]; done), by first | rfl | (simp [mx, wd_w_row, row_self, row_row]; done) | (simp_all [mx, wd_w_row, row_self, row_row]; done)⟩
def cs_mixl (B : Nat → Int32) (m l : Nat) : List Int32 := [cs_lval B m l 0, cs_lval B m l 1, cs_lval B m l 2, cs_lval B m l 3, cs_lval B m l 4, cs_lval B m l 5, cs_lval B m l 6, cs_lval B m l 7, cs_lval B m l 8, cs_sound B m l, sumF (cs_cost B m l) 16 0, B (20 * l + 8 + 1), B (20 * l + 8 + 2), B (20 * l + 8 + 3), B (20 * l + 8 + 4), B (20 * l + 8 + 5), B (20 * l + 8 + 6), B (20 * l + 8 + 7), B (20 * l + 8 + 8), B (20 * l + 8 + 9), B (20 * l + 8 + 10), B (20 * l + 8 + 11), B (20 * l + 8 + 12)]
theorem ct_X7_mixLoop {ad : Nat → Nat → Nat → Nat} {o : wd_S} {n m l : Nat} (G : cg (o.1 0) n m) (hl : l < 5) {h : Int64} : CT ad MX7_mixLoop [.ref (ad 7 0 0), .long h, .ref (ad 1 0 l)] o (RT (some (.long (mxs (cs_mixl (o.1 0) m l) h))) o) := by
  obtain ⟨g1, g2, g3, g4, g5, g6⟩ := id G
  refine CT.of (L := [some (.ref (ad 7 0 0)), some (.long h), none, some (.ref (ad 1 0 l)), none, none, none]) rfl rfl (by decide) (Nat.le_of_ble_eq_true rfl) rfl ?_
  refine aw_lload_n (x := h) rfl dX7_mixLoop_0 ?_
  refine aw_lstore (L2 := [some (.ref (ad 7 0 0)), some (.long h), none, some (.ref (ad 1 0 l)), some (.long h), none, none]) (by decide) rfl rfl dX7_mixLoop_1 ?_
  refine aw_iconst (v := 0) (by decide) dX7_mixLoop_3 ?_
  refine aw_istore (L2 := [some (.ref (ad 7 0 0)), some (.long h), none, some (.ref (ad 1 0 l)), some (.long h), none, some (.int 0)]) (by decide) rfl rfl dX7_mixLoop_4 ?_
  refine aw_iload (x := 0) rfl dX7_mixLoop_6 ?_
  refine aw_bipush (v := 9) (by decide) dX7_mixLoop_8 ?_
  refine aw_icmp_ge (tgt := 34) (by decide) dX7_mixLoop_10 (fun z => absurd z (by decide)) (fun _ => ?_)
  refine aw_lload (x := h) rfl dX7_mixLoop_13 ?_
  refine aw_aload_n (x := ad 7 0 0) rfl dX7_mixLoop_15 ?_
  refine aw_aload_n (x := ad 1 0 l) rfl dX7_mixLoop_16 ?_
  refine aw_iload (x := 0) rfl dX7_mixLoop_17 ?_
  refine aw_rV (As := [.ref (ad 1 0 l), .int 0]) (S := [.long h]) (v := some (.int (cs_lval (o.1 0) m l 0))) (o2 := o) (ct_X7_lval_0 G hl) (mm_fit_of cbX7_loopValue (by decide) (by decide)) wq267 cvX7_loopValue wv7 rfl rfl rfl (Nat.le_of_ble_eq_true rfl) (by decide) (by decide) rfl dX7_mixLoop_19 ?_
  refine aw_i2l dX7_mixLoop_22 ?_
  refine aw_rS (As := [.long h, .long ((cs_lval (o.1 0) m l 0 : Int32).toInt64)]) (S := []) (v := some (.long (mx h (cs_lval (o.1 0) m l 0)))) (o2 := o) ct_X7_mix (mm_fit_of cbX7_mix (by decide) (by decide)) wq255 wq256 rfl rfl (Nat.le_of_ble_eq_true rfl) (by decide) (by decide) rfl dX7_mixLoop_23 ?_
  obtain ⟨g_1, hg_1⟩ : ∃ z, z = mx h (cs_lval (o.1 0) m l 0) := ⟨_, rfl⟩
  rw [← hg_1]
  refine aw_lstore (L2 := [some (.ref (ad 7 0 0)), some (.long h), none, some (.ref (ad 1 0 l)), some (.long g_1), none, some (.int 0)]) (by decide) rfl rfl dX7_mixLoop_26 ?_
  refine aw_iinc (n := 1) (x := 0) (v := 1) (L2 := [some (.ref (ad 7 0 0)), some (.long h), none, some (.ref (ad 1 0 l)), some (.long g_1), none, some (.int 1)]) rfl (by decide) (by decide) rfl rfl dX7_mixLoop_28 ?_
  refine aw_goto (tgt := 6) (by decide) dX7_mixLoop_31 ?_
  refine aw_iload (x := 1) rfl dX7_mixLoop_6 ?_
  refine aw_bipush (v := 9) (by decide) dX7_mixLoop_8 ?_
  refine aw_icmp_ge (tgt := 34) (by decide) dX7_mixLoop_10 (fun z => absurd z (by decide)) (fun _ => ?_)
  refine aw_lload (x := g_1) rfl dX7_mixLoop_13 ?_
  refine aw_aload_n (x := ad 7 0 0) rfl dX7_mixLoop_15 ?_
  refine aw_aload_n (x := ad 1 0 l) rfl dX7_mixLoop_16 ?_
  refine aw_iload (x := 1) rfl dX7_mixLoop_17 ?_
  refine aw_rV (As := [.ref (ad 1 0 l), .int 1]) (S := [.long g_1]) (v := some (.int (cs_lval (o.1 0) m l 1))) (o2 := o) (ct_X7_lval_1 G hl) (mm_fit_of cbX7_loopValue (by decide) (by decide)) wq267 cvX7_loopValue wv7 rfl rfl rfl (Nat.le_of_ble_eq_true rfl) (by decide) (by decide) rfl dX7_mixLoop_19 ?_
  refine aw_i2l dX7_mixLoop_22 ?_
  refine aw_rS (As := [.long g_1, .long ((cs_lval (o.1 0) m l 1 : Int32).toInt64)]) (S := []) (v := some (.long (mx g_1 (cs_lval (o.1 0) m l 1)))) (o2 := o) ct_X7_mix (mm_fit_of cbX7_mix (by decide) (by decide)) wq255 wq256 rfl rfl (Nat.le_of_ble_eq_true rfl) (by decide) (by decide) rfl dX7_mixLoop_23 ?_
  obtain ⟨g_2, hg_2⟩ : ∃ z, z = mx g_1 (cs_lval (o.1 0) m l 1) := ⟨_, rfl⟩
  rw [← hg_2]
  refine aw_lstore (L2 := [some (.ref (ad 7 0 0)), some (.long h), none, some (.ref (ad 1 0 l)), some (.long g_2), none, some (.int 1)]) (by decide) rfl rfl dX7_mixLoop_26 ?_
  refine aw_iinc (n := 1) (x := 1) (v := 2) (L2 := [some (.ref (ad 7 0 0)), some (.long h), none, some (.ref (ad 1 0 l)), some (.long g_2), none, some (.int 2)]) rfl (by decide) (by decide) rfl rfl dX7_mixLoop_28 ?_
  refine aw_goto (tgt := 6) (by decide) dX7_mixLoop_31 ?_
  refine aw_iload (x := 2) rfl dX7_mixLoop_6 ?_
  refine aw_bipush (v := 9) (by decide) dX7_mixLoop_8 ?_
  refine aw_icmp_ge (tgt := 34) (by decide) dX7_mixLoop_10 (fun z => absurd z (by decide)) (fun _ => ?_)
  refine aw_lload (x := g_2) rfl dX7_mixLoop_13 ?_
  refine aw_aload_n (x := ad 7 0 0) rfl dX7_mixLoop_15 ?_
  refine aw_aload_n (x := ad 1 0 l) rfl dX7_mixLoop_16 ?_
  refine aw_iload (x := 2) rfl dX7_mixLoop_17 ?_
  refine aw_rV (As := [.ref (ad 1 0 l), .int 2]) (S := [.long g_2]) (v := some (.int (cs_lval (o.1 0) m l 2))) (o2 := o) (ct_X7_lval_2 G hl) (mm_fit_of cbX7_loopValue (by decide) (by decide)) wq267 cvX7_loopValue wv7 rfl rfl rfl (Nat.le_of_ble_eq_true rfl) (by decide) (by decide) rfl dX7_mixLoop_19 ?_
  refine aw_i2l dX7_mixLoop_22 ?_
  refine aw_rS (As := [.long g_2, .long ((cs_lval (o.1 0) m l 2 : Int32).toInt64)]) (S := []) (v := some (.long (mx g_2 (cs_lval (o.1 0) m l 2)))) (o2 := o) ct_X7_mix (mm_fit_of cbX7_mix (by decide) (by decide)) wq255 wq256 rfl rfl (Nat.le_of_ble_eq_true rfl) (by decide) (by decide) rfl dX7_mixLoop_23 ?_
  obtain ⟨g_3, hg_3⟩ : ∃ z, z = mx g_2 (cs_lval (o.1 0) m l 2) := ⟨_, rfl⟩
  rw [← hg_3]
  refine aw_lstore (L2 := [some (.ref (ad 7 0 0)), some (.long h), none, some (.ref (ad 1 0 l)), some (.long g_3), none, some (.int 2)]) (by decide) rfl rfl dX7_mixLoop_26 ?_
  refine aw_iinc (n := 1) (x := 2) (v := 3) (L2 := [some (.ref (ad 7 0 0)), some (.long h), none, some (.ref (ad 1 0 l)), some (.long g_3), none, some (.int 3)]) rfl (by decide) (by decide) rfl rfl dX7_mixLoop_28 ?_
  refine aw_goto (tgt := 6) (by decide) dX7_mixLoop_31 ?_
  refine aw_iload (x := 3) rfl dX7_mixLoop_6 ?_
  refine aw_bipush (v := 9) (by decide) dX7_mixLoop_8 ?_
  refine aw_icmp_ge (tgt := 34) (by decide) dX7_mixLoop_10 (fun z => absurd z (by decide)) (fun _ => ?_)
  refine aw_lload (x := g_3) rfl dX7_mixLoop_13 ?_
  refine aw_aload_n (x := ad 7 0 0) rfl dX7_mixLoop_15 ?_
  refine aw_aload_n (x := ad 1 0 l) rfl dX7_mixLoop_16 ?_
  refine aw_iload (x := 3) rfl dX7_mixLoop_17 ?_
  refine aw_rV (As := [.ref (ad 1 0 l), .int 3]) (S := [.long g_3]) (v := some (.int (cs_lval (o.1 0) m l 3))) (o2 := o) (ct_X7_lval_3 G hl) (mm_fit_of cbX7_loopValue (by decide) (by decide)) wq267 cvX7_loopValue wv7 rfl rfl rfl (Nat.le_of_ble_eq_true rfl) (by decide) (by decide) rfl dX7_mixLoop_19 ?_
  refine aw_i2l dX7_mixLoop_22 ?_
  refine aw_rS (As := [.long g_3, .long ((cs_lval (o.1 0) m l 3 : Int32).toInt64)]) (S := []) (v := some (.long (mx g_3 (cs_lval (o.1 0) m l 3)))) (o2 := o) ct_X7_mix (mm_fit_of cbX7_mix (by decide) (by decide)) wq255 wq256 rfl rfl (Nat.le_of_ble_eq_true rfl) (by decide) (by decide) rfl dX7_mixLoop_23 ?_
  obtain ⟨g_4, hg_4⟩ : ∃ z, z = mx g_3 (cs_lval (o.1 0) m l 3) := ⟨_, rfl⟩
  rw [← hg_4]
  refine aw_lstore (L2 := [some (.ref (ad 7 0 0)), some (.long h), none, some (.ref (ad 1 0 l)), some (.long g_4), none, some (.int 3)]) (by decide) rfl rfl dX7_mixLoop_26 ?_
  refine aw_iinc (n := 1) (x := 3) (v := 4) (L2 := [some (.ref (ad 7 0 0)), some (.long h), none, some (.ref (ad 1 0 l)), some (.long g_4), none, some (.int 4)]) rfl (by decide) (by decide) rfl rfl dX7_mixLoop_28 ?_
  refine aw_goto (tgt := 6) (by decide) dX7_mixLoop_31 ?_
  refine aw_iload (x := 4) rfl dX7_mixLoop_6 ?_
  refine aw_bipush (v := 9) (by decide) dX7_mixLoop_8 ?_
  refine aw_icmp_ge (tgt := 34) (by decide) dX7_mixLoop_10 (fun z => absurd z (by decide)) (fun _ => ?_)
  refine aw_lload (x := g_4) rfl dX7_mixLoop_13 ?_
  refine aw_aload_n (x := ad 7 0 0) rfl dX7_mixLoop_15 ?_
  refine aw_aload_n (x := ad 1 0 l) rfl dX7_mixLoop_16 ?_
  refine aw_iload (x := 4) rfl dX7_mixLoop_17 ?_
  refine aw_rV (As := [.ref (ad 1 0 l), .int 4]) (S := [.long g_4]) (v := some (.int (cs_lval (o.1 0) m l 4))) (o2 := o) (ct_X7_lval_4 G hl) (mm_fit_of cbX7_loopValue (by decide) (by decide)) wq267 cvX7_loopValue wv7 rfl rfl rfl (Nat.le_of_ble_eq_true rfl) (by decide) (by decide) rfl dX7_mixLoop_19 ?_
  refine aw_i2l dX7_mixLoop_22 ?_
  refine aw_rS (As := [.long g_4, .long ((cs_lval (o.1 0) m l 4 : Int32).toInt64)]) (S := []) (v := some (.long (mx g_4 (cs_lval (o.1 0) m l 4)))) (o2 := o) ct_X7_mix (mm_fit_of cbX7_mix (by decide) (by decide)) wq255 wq256 rfl rfl (Nat.le_of_ble_eq_true rfl) (by decide) (by decide) rfl dX7_mixLoop_23 ?_
  obtain ⟨g_5, hg_5⟩ : ∃ z, z = mx g_4 (cs_lval (o.1 0) m l 4) := ⟨_, rfl⟩
  rw [← hg_5]
  refine aw_lstore (L2 := [some (.ref (ad 7 0 0)), some (.long h), none, some (.ref (ad 1 0 l)), some (.long g_5), none, some (.int 4)]) (by decide) rfl rfl dX7_mixLoop_26 ?_
  refine aw_iinc (n := 1) (x := 4) (v := 5) (L2 := [some (.ref (ad 7 0 0)), some (.long h), none, some (.ref (ad 1 0 l)), some (.long g_5), none, some (.int 5)]) rfl (by decide) (by decide) rfl rfl dX7_mixLoop_28 ?_
  refine aw_goto (tgt := 6) (by decide) dX7_mixLoop_31 ?_
  refine aw_iload (x := 5) rfl dX7_mixLoop_6 ?_
  refine aw_bipush (v := 9) (by decide) dX7_mixLoop_8 ?_
  refine aw_icmp_ge (tgt := 34) (by decide) dX7_mixLoop_10 (fun z => absurd z (by decide)) (fun _ => ?_)
  refine aw_lload (x := g_5) rfl dX7_mixLoop_13 ?_
  refine aw_aload_n (x := ad 7 0 0) rfl dX7_mixLoop_15 ?_
  refine aw_aload_n (x := ad 1 0 l) rfl dX7_mixLoop_16 ?_
  refine aw_iload (x := 5) rfl dX7_mixLoop_17 ?_
  refine aw_rV (As := [.ref (ad 1 0 l), .int 5]) (S := [.long g_5]) (v := some (.int (cs_lval (o.1 0) m l 5))) (o2 := o) (ct_X7_lval_5 G hl) (mm_fit_of cbX7_loopValue (by decide) (by decide)) wq267 cvX7_loopValue wv7 rfl rfl rfl (Nat.le_of_ble_eq_true rfl) (by decide) (by decide) rfl dX7_mixLoop_19 ?_
  refine aw_i2l dX7_mixLoop_22 ?_
  refine aw_rS (As := [.long g_5, .long ((cs_lval (o.1 0) m l 5 : Int32).toInt64)]) (S := []) (v := some (.long (mx g_5 (cs_lval (o.1 0) m l 5)))) (o2 := o) ct_X7_mix (mm_fit_of cbX7_mix (by decide) (by decide)) wq255 wq256 rfl rfl (Nat.le_of_ble_eq_true rfl) (by decide) (by decide) rfl dX7_mixLoop_23 ?_
  obtain ⟨g_6, hg_6⟩ : ∃ z, z = mx g_5 (cs_lval (o.1 0) m l 5) := ⟨_, rfl⟩
  rw [← hg_6]
  refine aw_lstore (L2 := [some (.ref (ad 7 0 0)), some (.long h), none, some (.ref (ad 1 0 l)), some (.long g_6), none, some (.int 5)]) (by decide) rfl rfl dX7_mixLoop_26 ?_
  refine aw_iinc (n := 1) (x := 5) (v := 6) (L2 := [some (.ref (ad 7 0 0)), some (.long h), none, some (.ref (ad 1 0 l)), some (.long g_6), none, some (.int 6)]) rfl (by decide) (by decide) rfl rfl dX7_mixLoop_28 ?_
  refine aw_goto (tgt := 6) (by decide) dX7_mixLoop_31 ?_
  refine aw_iload (x := 6) rfl dX7_mixLoop_6 ?_
  refine aw_bipush (v := 9) (by decide) dX7_mixLoop_8 ?_
  refine aw_icmp_ge (tgt := 34) (by decide) dX7_mixLoop_10 (fun z => absurd z (by decide)) (fun _ => ?_)
  refine aw_lload (x := g_6) rfl dX7_mixLoop_13 ?_
  refine aw_aload_n (x := ad 7 0 0) rfl dX7_mixLoop_15 ?_
  refine aw_aload_n (x := ad 1 0 l) rfl dX7_mixLoop_16 ?_
  refine aw_iload (x := 6) rfl dX7_mixLoop_17 ?_
  refine aw_rV (As := [.ref (ad 1 0 l), .int 6]) (S := [.long g_6]) (v := some (.int (cs_lval (o.1 0) m l 6))) (o2 := o) (ct_X7_lval_6 G hl) (mm_fit_of cbX7_loopValue (by decide) (by decide)) wq267 cvX7_loopValue wv7 rfl rfl rfl (Nat.le_of_ble_eq_true rfl) (by decide) (by decide) rfl dX7_mixLoop_19 ?_
  refine aw_i2l dX7_mixLoop_22 ?_
  refine aw_rS (As := [.long g_6, .long ((cs_lval (o.1 0) m l 6 : Int32).toInt64)]) (S := []) (v := some (.long (mx g_6 (cs_lval (o.1 0) m l 6)))) (o2 := o) ct_X7_mix (mm_fit_of cbX7_mix (by decide) (by decide)) wq255 wq256 rfl rfl (Nat.le_of_ble_eq_true rfl) (by decide) (by decide) rfl dX7_mixLoop_23 ?_
  obtain ⟨g_7, hg_7⟩ : ∃ z, z = mx g_6 (cs_lval (o.1 0) m l 6) := ⟨_, rfl⟩
  rw [← hg_7]
  refine aw_lstore (L2 := [some (.ref (ad 7 0 0)), some (.long h), none, some (.ref (ad 1 0 l)), some (.long g_7), none, some (.int 6)]) (by decide) rfl rfl dX7_mixLoop_26 ?_
  refine aw_iinc (n := 1) (x := 6) (v := 7) (L2 := [some (.ref (ad 7 0 0)), some (.long h), none, some (.ref (ad 1 0 l)), some (.long g_7), none, some (.int 7)]) rfl (by decide) (by decide) rfl rfl dX7_mixLoop_28 ?_
  refine aw_goto (tgt := 6) (by decide) dX7_mixLoop_31 ?_
  refine aw_iload (x := 7) rfl dX7_mixLoop_6 ?_
  refine aw_bipush (v := 9) (by decide) dX7_mixLoop_8 ?_
  refine aw_icmp_ge (tgt := 34) (by decide) dX7_mixLoop_10 (fun z => absurd z (by decide)) (fun _ => ?_)
  refine aw_lload (x := g_7) rfl dX7_mixLoop_13 ?_
  refine aw_aload_n (x := ad 7 0 0) rfl dX7_mixLoop_15 ?_
  refine aw_aload_n (x := ad 1 0 l) rfl dX7_mixLoop_16 ?_
  refine aw_iload (x := 7) rfl dX7_mixLoop_17 ?_
  refine aw_rV (As := [.ref (ad 1 0 l), .int 7]) (S := [.long g_7]) (v := some (.int (cs_lval (o.1 0) m l 7))) (o2 := o) (ct_X7_lval_7 G hl) (mm_fit_of cbX7_loopValue (by decide) (by decide)) wq267 cvX7_loopValue wv7 rfl rfl rfl (Nat.le_of_ble_eq_true rfl) (by decide) (by decide) rfl dX7_mixLoop_19 ?_
  refine aw_i2l dX7_mixLoop_22 ?_
  refine aw_rS (As := [.long g_7, .long ((cs_lval (o.1 0) m l 7 : Int32).toInt64)]) (S := []) (v := some (.long (mx g_7 (cs_lval (o.1 0) m l 7)))) (o2 := o) ct_X7_mix (mm_fit_of cbX7_mix (by decide) (by decide)) wq255 wq256 rfl rfl (Nat.le_of_ble_eq_true rfl) (by decide) (by decide) rfl dX7_mixLoop_23 ?_
  obtain ⟨g_8, hg_8⟩ : ∃ z, z = mx g_7 (cs_lval (o.1 0) m l 7) := ⟨_, rfl⟩
  rw [← hg_8]
  refine aw_lstore (L2 := [some (.ref (ad 7 0 0)), some (.long h), none, some (.ref (ad 1 0 l)), some (.long g_8), none, some (.int 7)]) (by decide) rfl rfl dX7_mixLoop_26 ?_
  refine aw_iinc (n := 1) (x := 7) (v := 8) (L2 := [some (.ref (ad 7 0 0)), some (.long h), none, some (.ref (ad 1 0 l)), some (.long g_8), none, some (.int 8)]) rfl (by decide) (by decide) rfl rfl dX7_mixLoop_28 ?_
  refine aw_goto (tgt := 6) (by decide) dX7_mixLoop_31 ?_
  refine aw_iload (x := 8) rfl dX7_mixLoop_6 ?_
  refine aw_bipush (v := 9) (by decide) dX7_mixLoop_8 ?_
  refine aw_icmp_ge (tgt := 34) (by decide) dX7_mixLoop_10 (fun z => absurd z (by decide)) (fun _ => ?_)
  refine aw_lload (x := g_8) rfl dX7_mixLoop_13 ?_
  refine aw_aload_n (x := ad 7 0 0) rfl dX7_mixLoop_15 ?_
  refine aw_aload_n (x := ad 1 0 l) rfl dX7_mixLoop_16 ?_
  refine aw_iload (x := 8) rfl dX7_mixLoop_17 ?_
  refine aw_rV (As := [.ref (ad 1 0 l), .int 8]) (S := [.long g_8]) (v := some (.int (cs_lval (o.1 0) m l 8))) (o2 := o) (ct_X7_lval_8 G hl) (mm_fit_of cbX7_loopValue (by decide) (by decide)) wq267 cvX7_loopValue wv7 rfl rfl rfl (Nat.le_of_ble_eq_true rfl) (by decide) (by decide) rfl dX7_mixLoop_19 ?_
  refine aw_i2l dX7_mixLoop_22 ?_
  refine aw_rS (As := [.long g_8, .long ((cs_lval (o.1 0) m l 8 : Int32).toInt64)]) (S := []) (v := some (.long (mx g_8 (cs_lval (o.1 0) m l 8)))) (o2 := o) ct_X7_mix (mm_fit_of cbX7_mix (by decide) (by decide)) wq255 wq256 rfl rfl (Nat.le_of_ble_eq_true rfl) (by decide) (by decide) rfl dX7_mixLoop_23 ?_
  obtain ⟨g_9, hg_9⟩ : ∃ z, z = mx g_8 (cs_lval (o.1 0) m l 8) := ⟨_, rfl⟩
  rw [← hg_9]
  refine aw_lstore (L2 := [some (.ref (ad 7 0 0)), some (.long h), none, some (.ref (ad 1 0 l)), some (.long g_9), none, some (.int 8)]) (by decide) rfl rfl dX7_mixLoop_26 ?_
  refine aw_iinc (n := 1) (x := 8) (v := 9) (L2 := [some (.ref (ad 7 0 0)), some (.long h), none, some (.ref (ad 1 0 l)), some (.long g_9), none, some (.int 9)]) rfl (by decide) (by decide) rfl rfl dX7_mixLoop_28 ?_
  refine aw_goto (tgt := 6) (by decide) dX7_mixLoop_31 ?_
  refine aw_iload (x := 9) rfl dX7_mixLoop_6 ?_
  refine aw_bipush (v := 9) (by decide) dX7_mixLoop_8 ?_
  refine aw_icmp_ge (tgt := 34) (by decide) dX7_mixLoop_10 (fun _ => ?_) (fun z => absurd z (by decide))
  refine aw_lload (x := g_9) rfl dX7_mixLoop_34 ?_
  refine aw_aload_n (x := ad 7 0 0) rfl dX7_mixLoop_36 ?_
  refine aw_getr (q := (8, 0, 0)) wv7 rfl flX7_21 rfl rfl dX7_mixLoop_37 ?_
  refine aw_aload_n (x := ad 1 0 l) rfl dX7_mixLoop_40 ?_
  refine aw_rV (As := [.ref (ad 1 0 l)]) (S := [.long g_9]) (v := some (.int (cs_sound (o.1 0) m l))) (o2 := o) (ct_X1_sound G hl) (mm_fit_of cbX1_soundOf (by decide) (by decide)) wq283 cvX1_soundOf wv8 rfl rfl rfl (Nat.le_of_ble_eq_true rfl) (by decide) (by decide) rfl dX7_mixLoop_41 ?_
  refine aw_i2l dX7_mixLoop_44 ?_
  refine aw_rS (As := [.long g_9, .long ((cs_sound (o.1 0) m l : Int32).toInt64)]) (S := []) (v := some (.long (mx g_9 (cs_sound (o.1 0) m l)))) (o2 := o) ct_X7_mix (mm_fit_of cbX7_mix (by decide) (by decide)) wq255 wq256 rfl rfl (Nat.le_of_ble_eq_true rfl) (by decide) (by decide) rfl dX7_mixLoop_45 ?_
  obtain ⟨g_10, hg_10⟩ : ∃ z, z = mx g_9 (cs_sound (o.1 0) m l) := ⟨_, rfl⟩
  rw [← hg_10]
  refine aw_lstore (L2 := [some (.ref (ad 7 0 0)), some (.long h), none, some (.ref (ad 1 0 l)), some (.long g_10), none, some (.int 9)]) (by decide) rfl rfl dX7_mixLoop_48 ?_
  refine aw_lload (x := g_10) rfl dX7_mixLoop_50 ?_
  refine aw_aload_n (x := ad 7 0 0) rfl dX7_mixLoop_52 ?_
  refine aw_getr (q := (0, 0, 0)) wv7 rfl flX7_10 rfl rfl dX7_mixLoop_53 ?_
  refine aw_aload_n (x := ad 1 0 l) rfl dX7_mixLoop_56 ?_
  refine aw_rV (As := [.ref (ad 1 0 l)]) (S := [.long g_10]) (v := some (.int (sumF (cs_cost (o.1 0) m l) 16 0))) (o2 := o) (ct_X5_costOfCodes G hl) (mm_fit_of cbX5_costOfCodes (by decide) (by decide)) wq312 cvX5_costOfCodes (wv0 (by decide)) rfl rfl rfl (Nat.le_of_ble_eq_true rfl) (by decide) (by decide) rfl dX7_mixLoop_57 ?_
  refine aw_i2l dX7_mixLoop_60 ?_
  refine aw_rS (As := [.long g_10, .long ((sumF (cs_cost (o.1 0) m l) 16 0 : Int32).toInt64)]) (S := []) (v := some (.long (mx g_10 (sumF (cs_cost (o.1 0) m l) 16 0)))) (o2 := o) ct_X7_mix (mm_fit_of cbX7_mix (by decide) (by decide)) wq255 wq256 rfl rfl (Nat.le_of_ble_eq_true rfl) (by decide) (by decide) rfl dX7_mixLoop_61 ?_
  obtain ⟨g_11, hg_11⟩ : ∃ z, z = mx g_10 (sumF (cs_cost (o.1 0) m l) 16 0) := ⟨_, rfl⟩
  rw [← hg_11]
  refine aw_lstore (L2 := [some (.ref (ad 7 0 0)), some (.long h), none, some (.ref (ad 1 0 l)), some (.long g_11), none, some (.int 9)]) (by decide) rfl rfl dX7_mixLoop_64 ?_
  refine aw_iconst (v := 1) (by decide) dX7_mixLoop_66 ?_
  refine aw_istore (L2 := [some (.ref (ad 7 0 0)), some (.long h), none, some (.ref (ad 1 0 l)), some (.long g_11), none, some (.int 1)]) (by decide) rfl rfl dX7_mixLoop_67 ?_
  refine aw_iload (x := 1) rfl dX7_mixLoop_69 ?_
  refine aw_bipush (v := 12) (by decide) dX7_mixLoop_71 ?_
  refine aw_icmp_gt (tgt := 97) (by decide) dX7_mixLoop_73 (fun z => absurd z (by decide)) (fun _ => ?_)
  refine aw_lload (x := g_11) rfl dX7_mixLoop_76 ?_
  refine aw_aload_n (x := ad 1 0 l) rfl dX7_mixLoop_78 ?_
  refine aw_getr (q := (2, 0, l)) (wv1 (by decide) hl) rfl flX7_250 rfl rfl dX7_mixLoop_79 ?_
  refine aw_iload (x := 1) rfl dX7_mixLoop_82 ?_
  refine aw_ild (x := 1) (q := (0, 20 * l + 8 + 1)) (y := o.1 0 (20 * l + 8 + 1)) (by decide) (wv2 (j := 0) (i := l) (by decide) (by omega)) rfl rfl (Nat.le_of_ble_eq_true rfl) rfl dX7_mixLoop_84 ?_
  refine aw_i2l dX7_mixLoop_85 ?_
  refine aw_rS (As := [.long g_11, .long ((o.1 0 (20 * l + 8 + 1) : Int32).toInt64)]) (S := []) (v := some (.long (mx g_11 (o.1 0 (20 * l + 8 + 1))))) (o2 := o) ct_X7_mix (mm_fit_of cbX7_mix (by decide) (by decide)) wq255 wq256 rfl rfl (Nat.le_of_ble_eq_true rfl) (by decide) (by decide) rfl dX7_mixLoop_86 ?_
  obtain ⟨g_12, hg_12⟩ : ∃ z, z = mx g_11 (o.1 0 (20 * l + 8 + 1)) := ⟨_, rfl⟩
  rw [← hg_12]
  refine aw_lstore (L2 := [some (.ref (ad 7 0 0)), some (.long h), none, some (.ref (ad 1 0 l)), some (.long g_12), none, some (.int 1)]) (by decide) rfl rfl dX7_mixLoop_89 ?_
  refine aw_iinc (n := 1) (x := 1) (v := 2) (L2 := [some (.ref (ad 7 0 0)), some (.long h), none, some (.ref (ad 1 0 l)), some (.long g_12), none, some (.int 2)]) rfl (by decide) (by decide) rfl rfl dX7_mixLoop_91 ?_
  refine aw_goto (tgt := 69) (by decide) dX7_mixLoop_94 ?_
  refine aw_iload (x := 2) rfl dX7_mixLoop_69 ?_
  refine aw_bipush (v := 12) (by decide) dX7_mixLoop_71 ?_
  refine aw_icmp_gt (tgt := 97) (by decide) dX7_mixLoop_73 (fun z => absurd z (by decide)) (fun _ => ?_)
  refine aw_lload (x := g_12) rfl dX7_mixLoop_76 ?_
  refine aw_aload_n (x := ad 1 0 l) rfl dX7_mixLoop_78 ?_
  refine aw_getr (q := (2, 0, l)) (wv1 (by decide) hl) rfl flX7_250 rfl rfl dX7_mixLoop_79 ?_
  refine aw_iload (x := 2) rfl dX7_mixLoop_82 ?_
  refine aw_ild (x := 2) (q := (0, 20 * l + 8 + 2)) (y := o.1 0 (20 * l + 8 + 2)) (by decide) (wv2 (j := 0) (i := l) (by decide) (by omega)) rfl rfl (Nat.le_of_ble_eq_true rfl) rfl dX7_mixLoop_84 ?_
  refine aw_i2l dX7_mixLoop_85 ?_
  refine aw_rS (As := [.long g_12, .long ((o.1 0 (20 * l + 8 + 2) : Int32).toInt64)]) (S := []) (v := some (.long (mx g_12 (o.1 0 (20 * l + 8 + 2))))) (o2 := o) ct_X7_mix (mm_fit_of cbX7_mix (by decide) (by decide)) wq255 wq256 rfl rfl (Nat.le_of_ble_eq_true rfl) (by decide) (by decide) rfl dX7_mixLoop_86 ?_
  obtain ⟨g_13, hg_13⟩ : ∃ z, z = mx g_12 (o.1 0 (20 * l + 8 + 2)) := ⟨_, rfl⟩
  rw [← hg_13]
  refine aw_lstore (L2 := [some (.ref (ad 7 0 0)), some (.long h), none, some (.ref (ad 1 0 l)), some (.long g_13), none, some (.int 2)]) (by decide) rfl rfl dX7_mixLoop_89 ?_
  refine aw_iinc (n := 1) (x := 2) (v := 3) (L2 := [some (.ref (ad 7 0 0)), some (.long h), none, some (.ref (ad 1 0 l)), some (.long g_13), none, some (.int 3)]) rfl (by decide) (by decide) rfl rfl dX7_mixLoop_91 ?_
  refine aw_goto (tgt := 69) (by decide) dX7_mixLoop_94 ?_
  refine aw_iload (x := 3) rfl dX7_mixLoop_69 ?_
  refine aw_bipush (v := 12) (by decide) dX7_mixLoop_71 ?_
  refine aw_icmp_gt (tgt := 97) (by decide) dX7_mixLoop_73 (fun z => absurd z (by decide)) (fun _ => ?_)
  refine aw_lload (x := g_13) rfl dX7_mixLoop_76 ?_
  refine aw_aload_n (x := ad 1 0 l) rfl dX7_mixLoop_78 ?_
  refine aw_getr (q := (2, 0, l)) (wv1 (by decide) hl) rfl flX7_250 rfl rfl dX7_mixLoop_79 ?_
  refine aw_iload (x := 3) rfl dX7_mixLoop_82 ?_
  refine aw_ild (x := 3) (q := (0, 20 * l + 8 + 3)) (y := o.1 0 (20 * l + 8 + 3)) (by decide) (wv2 (j := 0) (i := l) (by decide) (by omega)) rfl rfl (Nat.le_of_ble_eq_true rfl) rfl dX7_mixLoop_84 ?_
  refine aw_i2l dX7_mixLoop_85 ?_
  refine aw_rS (As := [.long g_13, .long ((o.1 0 (20 * l + 8 + 3) : Int32).toInt64)]) (S := []) (v := some (.long (mx g_13 (o.1 0 (20 * l + 8 + 3))))) (o2 := o) ct_X7_mix (mm_fit_of cbX7_mix (by decide) (by decide)) wq255 wq256 rfl rfl (Nat.le_of_ble_eq_true rfl) (by decide) (by decide) rfl dX7_mixLoop_86 ?_
  obtain ⟨g_14, hg_14⟩ : ∃ z, z = mx g_13 (o.1 0 (20 * l + 8 + 3)) := ⟨_, rfl⟩
  rw [← hg_14]
  refine aw_lstore (L2 := [some (.ref (ad 7 0 0)), some (.long h), none, some (.ref (ad 1 0 l)), some (.long g_14), none, some (.int 3)]) (by decide) rfl rfl dX7_mixLoop_89 ?_
  refine aw_iinc (n := 1) (x := 3) (v := 4) (L2 := [some (.ref (ad 7 0 0)), some (.long h), none, some (.ref (ad 1 0 l)), some (.long g_14), none, some (.int 4)]) rfl (by decide) (by decide) rfl rfl dX7_mixLoop_91 ?_
  refine aw_goto (tgt := 69) (by decide) dX7_mixLoop_94 ?_
  refine aw_iload (x := 4) rfl dX7_mixLoop_69 ?_
  refine aw_bipush (v := 12) (by decide) dX7_mixLoop_71 ?_
  refine aw_icmp_gt (tgt := 97) (by decide) dX7_mixLoop_73 (fun z => absurd z (by decide)) (fun _ => ?_)
  refine aw_lload (x := g_14) rfl dX7_mixLoop_76 ?_
  refine aw_aload_n (x := ad 1 0 l) rfl dX7_mixLoop_78 ?_
  refine aw_getr (q := (2, 0, l)) (wv1 (by decide) hl) rfl flX7_250 rfl rfl dX7_mixLoop_79 ?_
  refine aw_iload (x := 4) rfl dX7_mixLoop_82 ?_
  refine aw_ild (x := 4) (q := (0, 20 * l + 8 + 4)) (y := o.1 0 (20 * l + 8 + 4)) (by decide) (wv2 (j := 0) (i := l) (by decide) (by omega)) rfl rfl (Nat.le_of_ble_eq_true rfl) rfl dX7_mixLoop_84 ?_
  refine aw_i2l dX7_mixLoop_85 ?_
  refine aw_rS (As := [.long g_14, .long ((o.1 0 (20 * l + 8 + 4) : Int32).toInt64)]) (S := []) (v := some (.long (mx g_14 (o.1 0 (20 * l + 8 + 4))))) (o2 := o) ct_X7_mix (mm_fit_of cbX7_mix (by decide) (by decide)) wq255 wq256 rfl rfl (Nat.le_of_ble_eq_true rfl) (by decide) (by decide) rfl dX7_mixLoop_86 ?_
  obtain ⟨g_15, hg_15⟩ : ∃ z, z = mx g_14 (o.1 0 (20 * l + 8 + 4)) := ⟨_, rfl⟩
  rw [← hg_15]
  refine aw_lstore (L2 := [some (.ref (ad 7 0 0)), some (.long h), none, some (.ref (ad 1 0 l)), some (.long g_15), none, some (.int 4)]) (by decide) rfl rfl dX7_mixLoop_89 ?_
  refine aw_iinc (n := 1) (x := 4) (v := 5) (L2 := [some (.ref (ad 7 0 0)), some (.long h), none, some (.ref (ad 1 0 l)), some (.long g_15), none, some (.int 5)]) rfl (by decide) (by decide) rfl rfl dX7_mixLoop_91 ?_
  refine aw_goto (tgt := 69) (by decide) dX7_mixLoop_94 ?_
  refine aw_iload (x := 5) rfl dX7_mixLoop_69 ?_
  refine aw_bipush (v := 12) (by decide) dX7_mixLoop_71 ?_
  refine aw_icmp_gt (tgt := 97) (by decide) dX7_mixLoop_73 (fun z => absurd z (by decide)) (fun _ => ?_)
  refine aw_lload (x := g_15) rfl dX7_mixLoop_76 ?_
  refine aw_aload_n (x := ad 1 0 l) rfl dX7_mixLoop_78 ?_
  refine aw_getr (q := (2, 0, l)) (wv1 (by decide) hl) rfl flX7_250 rfl rfl dX7_mixLoop_79 ?_
  refine aw_iload (x := 5) rfl dX7_mixLoop_82 ?_
  refine aw_ild (x := 5) (q := (0, 20 * l + 8 + 5)) (y := o.1 0 (20 * l + 8 + 5)) (by decide) (wv2 (j := 0) (i := l) (by decide) (by omega)) rfl rfl (Nat.le_of_ble_eq_true rfl) rfl dX7_mixLoop_84 ?_
  refine aw_i2l dX7_mixLoop_85 ?_
  refine aw_rS (As := [.long g_15, .long ((o.1 0 (20 * l + 8 + 5) : Int32).toInt64)]) (S := []) (v := some (.long (mx g_15 (o.1 0 (20 * l + 8 + 5))))) (o2 := o) ct_X7_mix (mm_fit_of cbX7_mix (by decide) (by decide)) wq255 wq256 rfl rfl (Nat.le_of_ble_eq_true rfl) (by decide) (by decide) rfl dX7_mixLoop_86 ?_
  obtain ⟨g_16, hg_16⟩ : ∃ z, z = mx g_15 (o.1 0 (20 * l + 8 + 5)) := ⟨_, rfl⟩
  rw [← hg_16]
  refine aw_lstore (L2 := [some (.ref (ad 7 0 0)), some (.long h), none, some (.ref (ad 1 0 l)), some (.long g_16), none, some (.int 5)]) (by decide) rfl rfl dX7_mixLoop_89 ?_
  refine aw_iinc (n := 1) (x := 5) (v := 6) (L2 := [some (.ref (ad 7 0 0)), some (.long h), none, some (.ref (ad 1 0 l)), some (.long g_16), none, some (.int 6)]) rfl (by decide) (by decide) rfl rfl dX7_mixLoop_91 ?_
  refine aw_goto (tgt := 69) (by decide) dX7_mixLoop_94 ?_
  refine aw_iload (x := 6) rfl dX7_mixLoop_69 ?_
  refine aw_bipush (v := 12) (by decide) dX7_mixLoop_71 ?_
  refine aw_icmp_gt (tgt := 97) (by decide) dX7_mixLoop_73 (fun z => absurd z (by decide)) (fun _ => ?_)
  refine aw_lload (x := g_16) rfl dX7_mixLoop_76 ?_
  refine aw_aload_n (x := ad 1 0 l) rfl dX7_mixLoop_78 ?_
  refine aw_getr (q := (2, 0, l)) (wv1 (by decide) hl) rfl flX7_250 rfl rfl dX7_mixLoop_79 ?_
  refine aw_iload (x := 6) rfl dX7_mixLoop_82 ?_
  refine aw_ild (x := 6) (q := (0, 20 * l + 8 + 6)) (y := o.1 0 (20 * l + 8 + 6)) (by decide) (wv2 (j := 0) (i := l) (by decide) (by omega)) rfl rfl (Nat.le_of_ble_eq_true rfl) rfl dX7_mixLoop_84 ?_
  refine aw_i2l dX7_mixLoop_85 ?_
  refine aw_rS (As := [.long g_16, .long ((o.1 0 (20 * l + 8 + 6) : Int32).toInt64)]) (S := []) (v := some (.long (mx g_16 (o.1 0 (20 * l + 8 + 6))))) (o2 := o) ct_X7_mix (mm_fit_of cbX7_mix (by decide) (by decide)) wq255 wq256 rfl rfl (Nat.le_of_ble_eq_true rfl) (by decide) (by decide) rfl dX7_mixLoop_86 ?_
  obtain ⟨g_17, hg_17⟩ : ∃ z, z = mx g_16 (o.1 0 (20 * l + 8 + 6)) := ⟨_, rfl⟩
  rw [← hg_17]
  refine aw_lstore (L2 := [some (.ref (ad 7 0 0)), some (.long h), none, some (.ref (ad 1 0 l)), some (.long g_17), none, some (.int 6)]) (by decide) rfl rfl dX7_mixLoop_89 ?_
  refine aw_iinc (n := 1) (x := 6) (v := 7) (L2 := [some (.ref (ad 7 0 0)), some (.long h), none, some (.ref (ad 1 0 l)), some (.long g_17), none, some (.int 7)]) rfl (by decide) (by decide) rfl rfl dX7_mixLoop_91 ?_
  refine aw_goto (tgt := 69) (by decide) dX7_mixLoop_94 ?_
  refine aw_iload (x := 7) rfl dX7_mixLoop_69 ?_
  refine aw_bipush (v := 12) (by decide) dX7_mixLoop_71 ?_
  refine aw_icmp_gt (tgt := 97) (by decide) dX7_mixLoop_73 (fun z => absurd z (by decide)) (fun _ => ?_)
  refine aw_lload (x := g_17) rfl dX7_mixLoop_76 ?_
  refine aw_aload_n (x := ad 1 0 l) rfl dX7_mixLoop_78 ?_
  refine aw_getr (q := (2, 0, l)) (wv1 (by decide) hl) rfl flX7_250 rfl rfl dX7_mixLoop_79 ?_
  refine aw_iload (x := 7) rfl dX7_mixLoop_82 ?_
  refine aw_ild (x := 7) (q := (0, 20 * l + 8 + 7)) (y := o.1 0 (20 * l + 8 + 7)) (by decide) (wv2 (j := 0) (i := l) (by decide) (by omega)) rfl rfl (Nat.le_of_ble_eq_true rfl) rfl dX7_mixLoop_84 ?_
  refine aw_i2l dX7_mixLoop_85 ?_
  refine aw_rS (As := [.long g_17, .long ((o.1 0 (20 * l + 8 + 7) : Int32).toInt64)]) (S := []) (v := some (.long (mx g_17 (o.1 0 (20 * l + 8 + 7))))) (o2 := o) ct_X7_mix (mm_fit_of cbX7_mix (by decide) (by decide)) wq255 wq256 rfl rfl (Nat.le_of_ble_eq_true rfl) (by decide) (by decide) rfl dX7_mixLoop_86 ?_
  obtain ⟨g_18, hg_18⟩ : ∃ z, z = mx g_17 (o.1 0 (20 * l + 8 + 7)) := ⟨_, rfl⟩
  rw [← hg_18]
  refine aw_lstore (L2 := [some (.ref (ad 7 0 0)), some (.long h), none, some (.ref (ad 1 0 l)), some (.long g_18), none, some (.int 7)]) (by decide) rfl rfl dX7_mixLoop_89 ?_
  refine aw_iinc (n := 1) (x := 7) (v := 8) (L2 := [some (.ref (ad 7 0 0)), some (.long h), none, some (.ref (ad 1 0 l)), some (.long g_18), none, some (.int 8)]) rfl (by decide) (by decide) rfl rfl dX7_mixLoop_91 ?_
  refine aw_goto (tgt := 69) (by decide) dX7_mixLoop_94 ?_
  refine aw_iload (x := 8) rfl dX7_mixLoop_69 ?_
  refine aw_bipush (v := 12) (by decide) dX7_mixLoop_71 ?_
  refine aw_icmp_gt (tgt := 97) (by decide) dX7_mixLoop_73 (fun z => absurd z (by decide)) (fun _ => ?_)
  refine aw_lload (x := g_18) rfl dX7_mixLoop_76 ?_
  refine aw_aload_n (x := ad 1 0 l) rfl dX7_mixLoop_78 ?_
  refine aw_getr (q := (2, 0, l)) (wv1 (by decide) hl) rfl flX7_250 rfl rfl dX7_mixLoop_79 ?_
  refine aw_iload (x := 8) rfl dX7_mixLoop_82 ?_
  refine aw_ild (x := 8) (q := (0, 20 * l + 8 + 8)) (y := o.1 0 (20 * l + 8 + 8)) (by decide) (wv2 (j := 0) (i := l) (by decide) (by omega)) rfl rfl (Nat.le_of_ble_eq_true rfl) rfl dX7_mixLoop_84 ?_
  refine aw_i2l dX7_mixLoop_85 ?_
  refine aw_rS (As := [.long g_18, .long ((o.1 0 (20 * l + 8 + 8) : Int32).toInt64)]) (S := []) (v := some (.long (mx g_18 (o.1 0 (20 * l + 8 + 8))))) (o2 := o) ct_X7_mix (mm_fit_of cbX7_mix (by decide) (by decide)) wq255 wq256 rfl rfl (Nat.le_of_ble_eq_true rfl) (by decide) (by decide) rfl dX7_mixLoop_86 ?_
  obtain ⟨g_19, hg_19⟩ : ∃ z, z = mx g_18 (o.1 0 (20 * l + 8 + 8)) := ⟨_, rfl⟩
  rw [← hg_19]
  refine aw_lstore (L2 := [some (.ref (ad 7 0 0)), some (.long h), none, some (.ref (ad 1 0 l)), some (.long g_19), none, some (.int 8)]) (by decide) rfl rfl dX7_mixLoop_89 ?_
  refine aw_iinc (n := 1) (x := 8) (v := 9) (L2 := [some (.ref (ad 7 0 0)), some (.long h), none, some (.ref (ad 1 0 l)), some (.long g_19), none, some (.int 9)]) rfl (by decide) (by decide) rfl rfl dX7_mixLoop_91 ?_
  refine aw_goto (tgt := 69) (by decide) dX7_mixLoop_94 ?_
  refine aw_iload (x := 9) rfl dX7_mixLoop_69 ?_
  refine aw_bipush (v := 12) (by decide) dX7_mixLoop_71 ?_
  refine aw_icmp_gt (tgt := 97) (by decide) dX7_mixLoop_73 (fun z => absurd z (by decide)) (fun _ => ?_)
  refine aw_lload (x := g_19) rfl dX7_mixLoop_76 ?_
  refine aw_aload_n (x := ad 1 0 l) rfl dX7_mixLoop_78 ?_
  refine aw_getr (q := (2, 0, l)) (wv1 (by decide) hl) rfl flX7_250 rfl rfl dX7_mixLoop_79 ?_
  refine aw_iload (x := 9) rfl dX7_mixLoop_82 ?_
  refine aw_ild (x := 9) (q := (0, 20 * l + 8 + 9)) (y := o.1 0 (20 * l + 8 + 9)) (by decide) (wv2 (j := 0) (i := l) (by decide) (by omega)) rfl rfl (Nat.le_of_ble_eq_true rfl) rfl dX7_mixLoop_84 ?_
  refine aw_i2l dX7_mixLoop_85 ?_
  refine aw_rS (As := [.long g_19, .long ((o.1 0 (20 * l + 8 + 9) : Int32).toInt64)]) (S := []) (v := some (.long (mx g_19 (o.1 0 (20 * l + 8 + 9))))) (o2 := o) ct_X7_mix (mm_fit_of cbX7_mix (by decide) (by decide)) wq255 wq256 rfl rfl (Nat.le_of_ble_eq_true rfl) (by decide) (by decide) rfl dX7_mixLoop_86 ?_
  obtain ⟨g_20, hg_20⟩ : ∃ z, z = mx g_19 (o.1 0 (20 * l + 8 + 9)) := ⟨_, rfl⟩
  rw [← hg_20]
  refine aw_lstore (L2 := [some (.ref (ad 7 0 0)), some (.long h), none, some (.ref (ad 1 0 l)), some (.long g_20), none, some (.int 9)]) (by decide) rfl rfl dX7_mixLoop_89 ?_
  refine aw_iinc (n := 1) (x := 9) (v := 10) (L2 := [some (.ref (ad 7 0 0)), some (.long h), none, some (.ref (ad 1 0 l)), some (.long g_20), none, some (.int 10)]) rfl (by decide) (by decide) rfl rfl dX7_mixLoop_91 ?_
  refine aw_goto (tgt := 69) (by decide) dX7_mixLoop_94 ?_
  refine aw_iload (x := 10) rfl dX7_mixLoop_69 ?_
  refine aw_bipush (v := 12) (by decide) dX7_mixLoop_71 ?_
  refine aw_icmp_gt (tgt := 97) (by decide) dX7_mixLoop_73 (fun z => absurd z (by decide)) (fun _ => ?_)
  refine aw_lload (x := g_20) rfl dX7_mixLoop_76 ?_
  refine aw_aload_n (x := ad 1 0 l) rfl dX7_mixLoop_78 ?_
  refine aw_getr (q := (2, 0, l)) (wv1 (by decide) hl) rfl flX7_250 rfl rfl dX7_mixLoop_79 ?_
  refine aw_iload (x := 10) rfl dX7_mixLoop_82 ?_
  refine aw_ild (x := 10) (q := (0, 20 * l + 8 + 10)) (y := o.1 0 (20 * l + 8 + 10)) (by decide) (wv2 (j := 0) (i := l) (by decide) (by omega)) rfl rfl (Nat.le_of_ble_eq_true rfl) rfl dX7_mixLoop_84 ?_
  refine aw_i2l dX7_mixLoop_85 ?_
  refine aw_rS (As := [.long g_20, .long ((o.1 0 (20 * l + 8 + 10) : Int32).toInt64)]) (S := []) (v := some (.long (mx g_20 (o.1 0 (20 * l + 8 + 10))))) (o2 := o) ct_X7_mix (mm_fit_of cbX7_mix (by decide) (by decide)) wq255 wq256 rfl rfl (Nat.le_of_ble_eq_true rfl) (by decide) (by decide) rfl dX7_mixLoop_86 ?_
  obtain ⟨g_21, hg_21⟩ : ∃ z, z = mx g_20 (o.1 0 (20 * l + 8 + 10)) := ⟨_, rfl⟩
  rw [← hg_21]
  refine aw_lstore (L2 := [some (.ref (ad 7 0 0)), some (.long h), none, some (.ref (ad 1 0 l)), some (.long g_21), none, some (.int 10)]) (by decide) rfl rfl dX7_mixLoop_89 ?_
  refine aw_iinc (n := 1) (x := 10) (v := 11) (L2 := [some (.ref (ad 7 0 0)), some (.long h), none, some (.ref (ad 1 0 l)), some (.long g_21), none, some (.int 11)]) rfl (by decide) (by decide) rfl rfl dX7_mixLoop_91 ?_
  refine aw_goto (tgt := 69) (by decide) dX7_mixLoop_94 ?_
  refine aw_iload (x := 11) rfl dX7_mixLoop_69 ?_
  refine aw_bipush (v := 12) (by decide) dX7_mixLoop_71 ?_
  refine aw_icmp_gt (tgt := 97) (by decide) dX7_mixLoop_73 (fun z => absurd z (by decide)) (fun _ => ?_)
  refine aw_lload (x := g_21) rfl dX7_mixLoop_76 ?_
  refine aw_aload_n (x := ad 1 0 l) rfl dX7_mixLoop_78 ?_
  refine aw_getr (q := (2, 0, l)) (wv1 (by decide) hl) rfl flX7_250 rfl rfl dX7_mixLoop_79 ?_
  refine aw_iload (x := 11) rfl dX7_mixLoop_82 ?_
  refine aw_ild (x := 11) (q := (0, 20 * l + 8 + 11)) (y := o.1 0 (20 * l + 8 + 11)) (by decide) (wv2 (j := 0) (i := l) (by decide) (by omega)) rfl rfl (Nat.le_of_ble_eq_true rfl) rfl dX7_mixLoop_84 ?_
  refine aw_i2l dX7_mixLoop_85 ?_
  refine aw_rS (As := [.long g_21, .long ((o.1 0 (20 * l + 8 + 11) : Int32).toInt64)]) (S := []) (v := some (.long (mx g_21 (o.1 0 (20 * l + 8 + 11))))) (o2 := o) ct_X7_mix (mm_fit_of cbX7_mix (by decide) (by decide)) wq255 wq256 rfl rfl (Nat.le_of_ble_eq_true rfl) (by decide) (by decide) rfl dX7_mixLoop_86 ?_
  obtain ⟨g_22, hg_22⟩ : ∃ z, z = mx g_21 (o.1 0 (20 * l + 8 + 11)) := ⟨_, rfl⟩
  rw [← hg_22]
  refine aw_lstore (L2 := [some (.ref (ad 7 0 0)), some (.long h), none, some (.ref (ad 1 0 l)), some (.long g_22), none, some (.int 11)]) (by decide) rfl rfl dX7_mixLoop_89 ?_
  refine aw_iinc (n := 1) (x := 11) (v := 12) (L2 := [some (.ref (ad 7 0 0)), some (.long h), none, some (.ref (ad 1 0 l)), some (.long g_22), none, some (.int 12)]) rfl (by decide) (by decide) rfl rfl dX7_mixLoop_91 ?_
  refine aw_goto (tgt := 69) (by decide) dX7_mixLoop_94 ?_
  refine aw_iload (x := 12) rfl dX7_mixLoop_69 ?_
  refine aw_bipush (v := 12) (by decide) dX7_mixLoop_71 ?_
  refine aw_icmp_gt (tgt := 97) (by decide) dX7_mixLoop_73 (fun z => absurd z (by decide)) (fun _ => ?_)
  refine aw_lload (x := g_22) rfl dX7_mixLoop_76 ?_
  refine aw_aload_n (x := ad 1 0 l) rfl dX7_mixLoop_78 ?_
  refine aw_getr (q := (2, 0, l)) (wv1 (by decide) hl) rfl flX7_250 rfl rfl dX7_mixLoop_79 ?_
  refine aw_iload (x := 12) rfl dX7_mixLoop_82 ?_
  refine aw_ild (x := 12) (q := (0, 20 * l + 8 + 12)) (y := o.1 0 (20 * l + 8 + 12)) (by decide) (wv2 (j := 0) (i := l) (by decide) (by omega)) rfl rfl (Nat.le_of_ble_eq_true rfl) rfl dX7_mixLoop_84 ?_
  refine aw_i2l dX7_mixLoop_85 ?_
  refine aw_rS (As := [.long g_22, .long ((o.1 0 (20 * l + 8 + 12) : Int32).toInt64)]) (S := []) (v := some (.long (mx g_22 (o.1 0 (20 * l + 8 + 12))))) (o2 := o) ct_X7_mix (mm_fit_of cbX7_mix (by decide) (by decide)) wq255 wq256 rfl rfl (Nat.le_of_ble_eq_true rfl) (by decide) (by decide) rfl dX7_mixLoop_86 ?_
  obtain ⟨g_23, hg_23⟩ : ∃ z, z = mx g_22 (o.1 0 (20 * l + 8 + 12)) := ⟨_, rfl⟩
  rw [← hg_23]
  refine aw_lstore (L2 := [some (.ref (ad 7 0 0)), some (.long h), none, some (.ref (ad 1 0 l)), some (.long g_23), none, some (.int 12)]) (by decide) rfl rfl dX7_mixLoop_89 ?_
  refine aw_iinc (n := 1) (x := 12) (v := 13) (L2 := [some (.ref (ad 7 0 0)), some (.long h), none, some (.ref (ad 1 0 l)), some (.long g_23), none, some (.int 13)]) rfl (by decide) (by decide) rfl rfl dX7_mixLoop_91 ?_
  refine aw_goto (tgt := 69) (by decide) dX7_mixLoop_94 ?_
  refine aw_iload (x := 13) rfl dX7_mixLoop_69 ?_
  refine aw_bipush (v := 12) (by decide) dX7_mixLoop_71 ?_
  refine aw_icmp_gt (tgt := 97) (by decide) dX7_mixLoop_73 (fun _ => ?_) (fun z => absurd z (by decide))
  refine aw_lload (x := g_23) rfl dX7_mixLoop_97 ?_
  exact aw_lret rfl (by decide) (by decide) dX7_mixLoop_99 ⟨by subst hg_23; subst hg_22; subst hg_21; subst hg_20; subst hg_19; subst hg_18; subst hg_17; subst hg_16; subst hg_15; subst hg_14; subst hg_13; subst hg_12; subst hg_11; subst hg_10; subst hg_9; subst hg_8; subst hg_7; subst hg_6; subst hg_5; subst hg_4; subst hg_3; subst hg_2; subst hg_1; rfl, rfl⟩
def cs_mixs (B : Nat → Int32) (l s : Nat) : List Int32 := [cs_sval B l s 0, cs_sval B l s 1, cs_sval B l s 2, cs_sval B l s 3, cs_sval B l s 4, cs_sval B l s 5, cs_sval B l s 6, cs_sval B l s 7]
theorem ct_X7_mixSub {ad : Nat → Nat → Nat → Nat} {o : wd_S} {n m l s : Nat} (G : cg (o.1 0) n m) (hl : l < n) (hs : s < m) (hh : o.1 0 (101 + 8 * s + 1) = nI l) {h : Int64} : CT ad MX7_mixSubscriber [.ref (ad 7 0 0), .long h, .ref (ad 3 0 s)] o (RT (some (.long (mxs (cs_mixs (o.1 0) l s) h))) o) := by
  obtain ⟨g1, g2, g3, g4, g5, g6⟩ := id G
  have hl5 : l < 5 := by omega
  have hs16 : s < 16 := by omega
  refine CT.of (L := [some (.ref (ad 7 0 0)), some (.long h), none, some (.ref (ad 3 0 s)), none, none, none]) rfl rfl (by decide) (Nat.le_of_ble_eq_true rfl) rfl ?_
  refine aw_lload_n (x := h) rfl dX7_mixSubscriber_0 ?_
  refine aw_lstore (L2 := [some (.ref (ad 7 0 0)), some (.long h), none, some (.ref (ad 3 0 s)), some (.long h), none, none]) (by decide) rfl rfl dX7_mixSubscriber_1 ?_
  refine aw_iconst (v := 0) (by decide) dX7_mixSubscriber_3 ?_
  refine aw_istore (L2 := [some (.ref (ad 7 0 0)), some (.long h), none, some (.ref (ad 3 0 s)), some (.long h), none, some (.int 0)]) (by decide) rfl rfl dX7_mixSubscriber_4 ?_
  refine aw_iload (x := 0) rfl dX7_mixSubscriber_6 ?_
  refine aw_bipush (v := 8) (by decide) dX7_mixSubscriber_8 ?_
  refine aw_icmp_ge (tgt := 34) (by decide) dX7_mixSubscriber_10 (fun z => absurd z (by decide)) (fun _ => ?_)
  refine aw_lload (x := h) rfl dX7_mixSubscriber_13 ?_
  refine aw_aload_n (x := ad 7 0 0) rfl dX7_mixSubscriber_15 ?_
  refine aw_aload_n (x := ad 3 0 s) rfl dX7_mixSubscriber_16 ?_
  refine aw_iload (x := 0) rfl dX7_mixSubscriber_17 ?_
  refine aw_rV (As := [.ref (ad 3 0 s), .int 0]) (S := [.long h]) (v := some (.int (cs_sval (o.1 0) l s 0))) (o2 := o) (ct_X7_sval_0 G hl hs hh) (mm_fit_of cbX7_subscriberValue (by decide) (by decide)) wq322 cvX7_subscriberValue wv7 rfl rfl rfl (Nat.le_of_ble_eq_true rfl) (by decide) (by decide) rfl dX7_mixSubscriber_19 ?_
  refine aw_i2l dX7_mixSubscriber_22 ?_
  refine aw_rS (As := [.long h, .long ((cs_sval (o.1 0) l s 0 : Int32).toInt64)]) (S := []) (v := some (.long (mx h (cs_sval (o.1 0) l s 0)))) (o2 := o) ct_X7_mix (mm_fit_of cbX7_mix (by decide) (by decide)) wq255 wq256 rfl rfl (Nat.le_of_ble_eq_true rfl) (by decide) (by decide) rfl dX7_mixSubscriber_23 ?_
  obtain ⟨g_1, hg_1⟩ : ∃ z, z = mx h (cs_sval (o.1 0) l s 0) := ⟨_, rfl⟩
  rw [← hg_1]
  refine aw_lstore (L2 := [some (.ref (ad 7 0 0)), some (.long h), none, some (.ref (ad 3 0 s)), some (.long g_1), none, some (.int 0)]) (by decide) rfl rfl dX7_mixSubscriber_26 ?_
  refine aw_iinc (n := 1) (x := 0) (v := 1) (L2 := [some (.ref (ad 7 0 0)), some (.long h), none, some (.ref (ad 3 0 s)), some (.long g_1), none, some (.int 1)]) rfl (by decide) (by decide) rfl rfl dX7_mixSubscriber_28 ?_
  refine aw_goto (tgt := 6) (by decide) dX7_mixSubscriber_31 ?_
  refine aw_iload (x := 1) rfl dX7_mixSubscriber_6 ?_
  refine aw_bipush (v := 8) (by decide) dX7_mixSubscriber_8 ?_
  refine aw_icmp_ge (tgt := 34) (by decide) dX7_mixSubscriber_10 (fun z => absurd z (by decide)) (fun _ => ?_)
  refine aw_lload (x := g_1) rfl dX7_mixSubscriber_13 ?_
  refine aw_aload_n (x := ad 7 0 0) rfl dX7_mixSubscriber_15 ?_
  refine aw_aload_n (x := ad 3 0 s) rfl dX7_mixSubscriber_16 ?_
  refine aw_iload (x := 1) rfl dX7_mixSubscriber_17 ?_
  refine aw_rV (As := [.ref (ad 3 0 s), .int 1]) (S := [.long g_1]) (v := some (.int (cs_sval (o.1 0) l s 1))) (o2 := o) (ct_X7_sval_1 G hl hs hh) (mm_fit_of cbX7_subscriberValue (by decide) (by decide)) wq322 cvX7_subscriberValue wv7 rfl rfl rfl (Nat.le_of_ble_eq_true rfl) (by decide) (by decide) rfl dX7_mixSubscriber_19 ?_
  refine aw_i2l dX7_mixSubscriber_22 ?_
  refine aw_rS (As := [.long g_1, .long ((cs_sval (o.1 0) l s 1 : Int32).toInt64)]) (S := []) (v := some (.long (mx g_1 (cs_sval (o.1 0) l s 1)))) (o2 := o) ct_X7_mix (mm_fit_of cbX7_mix (by decide) (by decide)) wq255 wq256 rfl rfl (Nat.le_of_ble_eq_true rfl) (by decide) (by decide) rfl dX7_mixSubscriber_23 ?_
  obtain ⟨g_2, hg_2⟩ : ∃ z, z = mx g_1 (cs_sval (o.1 0) l s 1) := ⟨_, rfl⟩
  rw [← hg_2]
  refine aw_lstore (L2 := [some (.ref (ad 7 0 0)), some (.long h), none, some (.ref (ad 3 0 s)), some (.long g_2), none, some (.int 1)]) (by decide) rfl rfl dX7_mixSubscriber_26 ?_
  refine aw_iinc (n := 1) (x := 1) (v := 2) (L2 := [some (.ref (ad 7 0 0)), some (.long h), none, some (.ref (ad 3 0 s)), some (.long g_2), none, some (.int 2)]) rfl (by decide) (by decide) rfl rfl dX7_mixSubscriber_28 ?_
  refine aw_goto (tgt := 6) (by decide) dX7_mixSubscriber_31 ?_
  refine aw_iload (x := 2) rfl dX7_mixSubscriber_6 ?_
  refine aw_bipush (v := 8) (by decide) dX7_mixSubscriber_8 ?_
  refine aw_icmp_ge (tgt := 34) (by decide) dX7_mixSubscriber_10 (fun z => absurd z (by decide)) (fun _ => ?_)
  refine aw_lload (x := g_2) rfl dX7_mixSubscriber_13 ?_
  refine aw_aload_n (x := ad 7 0 0) rfl dX7_mixSubscriber_15 ?_
  refine aw_aload_n (x := ad 3 0 s) rfl dX7_mixSubscriber_16 ?_
  refine aw_iload (x := 2) rfl dX7_mixSubscriber_17 ?_
  refine aw_rV (As := [.ref (ad 3 0 s), .int 2]) (S := [.long g_2]) (v := some (.int (cs_sval (o.1 0) l s 2))) (o2 := o) (ct_X7_sval_2 G hl hs hh) (mm_fit_of cbX7_subscriberValue (by decide) (by decide)) wq322 cvX7_subscriberValue wv7 rfl rfl rfl (Nat.le_of_ble_eq_true rfl) (by decide) (by decide) rfl dX7_mixSubscriber_19 ?_
  refine aw_i2l dX7_mixSubscriber_22 ?_
  refine aw_rS (As := [.long g_2, .long ((cs_sval (o.1 0) l s 2 : Int32).toInt64)]) (S := []) (v := some (.long (mx g_2 (cs_sval (o.1 0) l s 2)))) (o2 := o) ct_X7_mix (mm_fit_of cbX7_mix (by decide) (by decide)) wq255 wq256 rfl rfl (Nat.le_of_ble_eq_true rfl) (by decide) (by decide) rfl dX7_mixSubscriber_23 ?_
  obtain ⟨g_3, hg_3⟩ : ∃ z, z = mx g_2 (cs_sval (o.1 0) l s 2) := ⟨_, rfl⟩
  rw [← hg_3]
  refine aw_lstore (L2 := [some (.ref (ad 7 0 0)), some (.long h), none, some (.ref (ad 3 0 s)), some (.long g_3), none, some (.int 2)]) (by decide) rfl rfl dX7_mixSubscriber_26 ?_
  refine aw_iinc (n := 1) (x := 2) (v := 3) (L2 := [some (.ref (ad 7 0 0)), some (.long h), none, some (.ref (ad 3 0 s)), some (.long g_3), none, some (.int 3)]) rfl (by decide) (by decide) rfl rfl dX7_mixSubscriber_28 ?_
  refine aw_goto (tgt := 6) (by decide) dX7_mixSubscriber_31 ?_
  refine aw_iload (x := 3) rfl dX7_mixSubscriber_6 ?_
  refine aw_bipush (v := 8) (by decide) dX7_mixSubscriber_8 ?_
  refine aw_icmp_ge (tgt := 34) (by decide) dX7_mixSubscriber_10 (fun z => absurd z (by decide)) (fun _ => ?_)
  refine aw_lload (x := g_3) rfl dX7_mixSubscriber_13 ?_
  refine aw_aload_n (x := ad 7 0 0) rfl dX7_mixSubscriber_15 ?_
  refine aw_aload_n (x := ad 3 0 s) rfl dX7_mixSubscriber_16 ?_
  refine aw_iload (x := 3) rfl dX7_mixSubscriber_17 ?_
  refine aw_rV (As := [.ref (ad 3 0 s), .int 3]) (S := [.long g_3]) (v := some (.int (cs_sval (o.1 0) l s 3))) (o2 := o) (ct_X7_sval_3 G hl hs hh) (mm_fit_of cbX7_subscriberValue (by decide) (by decide)) wq322 cvX7_subscriberValue wv7 rfl rfl rfl (Nat.le_of_ble_eq_true rfl) (by decide) (by decide) rfl dX7_mixSubscriber_19 ?_
  refine aw_i2l dX7_mixSubscriber_22 ?_
  refine aw_rS (As := [.long g_3, .long ((cs_sval (o.1 0) l s 3 : Int32).toInt64)]) (S := []) (v := some (.long (mx g_3 (cs_sval (o.1 0) l s 3)))) (o2 := o) ct_X7_mix (mm_fit_of cbX7_mix (by decide) (by decide)) wq255 wq256 rfl rfl (Nat.le_of_ble_eq_true rfl) (by decide) (by decide) rfl dX7_mixSubscriber_23 ?_
  obtain ⟨g_4, hg_4⟩ : ∃ z, z = mx g_3 (cs_sval (o.1 0) l s 3) := ⟨_, rfl⟩
  rw [← hg_4]
  refine aw_lstore (L2 := [some (.ref (ad 7 0 0)), some (.long h), none, some (.ref (ad 3 0 s)), some (.long g_4), none, some (.int 3)]) (by decide) rfl rfl dX7_mixSubscriber_26 ?_
  refine aw_iinc (n := 1) (x := 3) (v := 4) (L2 := [some (.ref (ad 7 0 0)), some (.long h), none, some (.ref (ad 3 0 s)), some (.long g_4), none, some (.int 4)]) rfl (by decide) (by decide) rfl rfl dX7_mixSubscriber_28 ?_
  refine aw_goto (tgt := 6) (by decide) dX7_mixSubscriber_31 ?_
  refine aw_iload (x := 4) rfl dX7_mixSubscriber_6 ?_
  refine aw_bipush (v := 8) (by decide) dX7_mixSubscriber_8 ?_
  refine aw_icmp_ge (tgt := 34) (by decide) dX7_mixSubscriber_10 (fun z => absurd z (by decide)) (fun _ => ?_)
  refine aw_lload (x := g_4) rfl dX7_mixSubscriber_13 ?_
  refine aw_aload_n (x := ad 7 0 0) rfl dX7_mixSubscriber_15 ?_
  refine aw_aload_n (x := ad 3 0 s) rfl dX7_mixSubscriber_16 ?_
  refine aw_iload (x := 4) rfl dX7_mixSubscriber_17 ?_
  refine aw_rV (As := [.ref (ad 3 0 s), .int 4]) (S := [.long g_4]) (v := some (.int (cs_sval (o.1 0) l s 4))) (o2 := o) (ct_X7_sval_4 G hl hs hh) (mm_fit_of cbX7_subscriberValue (by decide) (by decide)) wq322 cvX7_subscriberValue wv7 rfl rfl rfl (Nat.le_of_ble_eq_true rfl) (by decide) (by decide) rfl dX7_mixSubscriber_19 ?_
  refine aw_i2l dX7_mixSubscriber_22 ?_
  refine aw_rS (As := [.long g_4, .long ((cs_sval (o.1 0) l s 4 : Int32).toInt64)]) (S := []) (v := some (.long (mx g_4 (cs_sval (o.1 0) l s 4)))) (o2 := o) ct_X7_mix (mm_fit_of cbX7_mix (by decide) (by decide)) wq255 wq256 rfl rfl (Nat.le_of_ble_eq_true rfl) (by decide) (by decide) rfl dX7_mixSubscriber_23 ?_
  obtain ⟨g_5, hg_5⟩ : ∃ z, z = mx g_4 (cs_sval (o.1 0) l s 4) := ⟨_, rfl⟩
  rw [← hg_5]
  refine aw_lstore (L2 := [some (.ref (ad 7 0 0)), some (.long h), none, some (.ref (ad 3 0 s)), some (.long g_5), none, some (.int 4)]) (by decide) rfl rfl dX7_mixSubscriber_26 ?_
  refine aw_iinc (n := 1) (x := 4) (v := 5) (L2 := [some (.ref (ad 7 0 0)), some (.long h), none, some (.ref (ad 3 0 s)), some (.long g_5), none, some (.int 5)]) rfl (by decide) (by decide) rfl rfl dX7_mixSubscriber_28 ?_
  refine aw_goto (tgt := 6) (by decide) dX7_mixSubscriber_31 ?_
  refine aw_iload (x := 5) rfl dX7_mixSubscriber_6 ?_
  refine aw_bipush (v := 8) (by decide) dX7_mixSubscriber_8 ?_
  refine aw_icmp_ge (tgt := 34) (by decide) dX7_mixSubscriber_10 (fun z => absurd z (by decide)) (fun _ => ?_)
  refine aw_lload (x := g_5) rfl dX7_mixSubscriber_13 ?_
  refine aw_aload_n (x := ad 7 0 0) rfl dX7_mixSubscriber_15 ?_
  refine aw_aload_n (x := ad 3 0 s) rfl dX7_mixSubscriber_16 ?_
  refine aw_iload (x := 5) rfl dX7_mixSubscriber_17 ?_
  refine aw_rV (As := [.ref (ad 3 0 s), .int 5]) (S := [.long g_5]) (v := some (.int (cs_sval (o.1 0) l s 5))) (o2 := o) (ct_X7_sval_5 G hl hs hh) (mm_fit_of cbX7_subscriberValue (by decide) (by decide)) wq322 cvX7_subscriberValue wv7 rfl rfl rfl (Nat.le_of_ble_eq_true rfl) (by decide) (by decide) rfl dX7_mixSubscriber_19 ?_
  refine aw_i2l dX7_mixSubscriber_22 ?_
  refine aw_rS (As := [.long g_5, .long ((cs_sval (o.1 0) l s 5 : Int32).toInt64)]) (S := []) (v := some (.long (mx g_5 (cs_sval (o.1 0) l s 5)))) (o2 := o) ct_X7_mix (mm_fit_of cbX7_mix (by decide) (by decide)) wq255 wq256 rfl rfl (Nat.le_of_ble_eq_true rfl) (by decide) (by decide) rfl dX7_mixSubscriber_23 ?_
  obtain ⟨g_6, hg_6⟩ : ∃ z, z = mx g_5 (cs_sval (o.1 0) l s 5) := ⟨_, rfl⟩
  rw [← hg_6]
  refine aw_lstore (L2 := [some (.ref (ad 7 0 0)), some (.long h), none, some (.ref (ad 3 0 s)), some (.long g_6), none, some (.int 5)]) (by decide) rfl rfl dX7_mixSubscriber_26 ?_
  refine aw_iinc (n := 1) (x := 5) (v := 6) (L2 := [some (.ref (ad 7 0 0)), some (.long h), none, some (.ref (ad 3 0 s)), some (.long g_6), none, some (.int 6)]) rfl (by decide) (by decide) rfl rfl dX7_mixSubscriber_28 ?_
  refine aw_goto (tgt := 6) (by decide) dX7_mixSubscriber_31 ?_
  refine aw_iload (x := 6) rfl dX7_mixSubscriber_6 ?_
  refine aw_bipush (v := 8) (by decide) dX7_mixSubscriber_8 ?_
  refine aw_icmp_ge (tgt := 34) (by decide) dX7_mixSubscriber_10 (fun z => absurd z (by decide)) (fun _ => ?_)
  refine aw_lload (x := g_6) rfl dX7_mixSubscriber_13 ?_
  refine aw_aload_n (x := ad 7 0 0) rfl dX7_mixSubscriber_15 ?_
  refine aw_aload_n (x := ad 3 0 s) rfl dX7_mixSubscriber_16 ?_
  refine aw_iload (x := 6) rfl dX7_mixSubscriber_17 ?_
  refine aw_rV (As := [.ref (ad 3 0 s), .int 6]) (S := [.long g_6]) (v := some (.int (cs_sval (o.1 0) l s 6))) (o2 := o) (ct_X7_sval_6 G hl hs hh) (mm_fit_of cbX7_subscriberValue (by decide) (by decide)) wq322 cvX7_subscriberValue wv7 rfl rfl rfl (Nat.le_of_ble_eq_true rfl) (by decide) (by decide) rfl dX7_mixSubscriber_19 ?_
  refine aw_i2l dX7_mixSubscriber_22 ?_
  refine aw_rS (As := [.long g_6, .long ((cs_sval (o.1 0) l s 6 : Int32).toInt64)]) (S := []) (v := some (.long (mx g_6 (cs_sval (o.1 0) l s 6)))) (o2 := o) ct_X7_mix (mm_fit_of cbX7_mix (by decide) (by decide)) wq255 wq256 rfl rfl (Nat.le_of_ble_eq_true rfl) (by decide) (by decide) rfl dX7_mixSubscriber_23 ?_
  obtain ⟨g_7, hg_7⟩ : ∃ z, z = mx g_6 (cs_sval (o.1 0) l s 6) := ⟨_, rfl⟩
  rw [← hg_7]
  refine aw_lstore (L2 := [some (.ref (ad 7 0 0)), some (.long h), none, some (.ref (ad 3 0 s)), some (.long g_7), none, some (.int 6)]) (by decide) rfl rfl dX7_mixSubscriber_26 ?_
  refine aw_iinc (n := 1) (x := 6) (v := 7) (L2 := [some (.ref (ad 7 0 0)), some (.long h), none, some (.ref (ad 3 0 s)), some (.long g_7), none, some (.int 7)]) rfl (by decide) (by decide) rfl rfl dX7_mixSubscriber_28 ?_
  refine aw_goto (tgt := 6) (by decide) dX7_mixSubscriber_31 ?_
  refine aw_iload (x := 7) rfl dX7_mixSubscriber_6 ?_
  refine aw_bipush (v := 8) (by decide) dX7_mixSubscriber_8 ?_
  refine aw_icmp_ge (tgt := 34) (by decide) dX7_mixSubscriber_10 (fun z => absurd z (by decide)) (fun _ => ?_)
  refine aw_lload (x := g_7) rfl dX7_mixSubscriber_13 ?_
  refine aw_aload_n (x := ad 7 0 0) rfl dX7_mixSubscriber_15 ?_
  refine aw_aload_n (x := ad 3 0 s) rfl dX7_mixSubscriber_16 ?_
  refine aw_iload (x := 7) rfl dX7_mixSubscriber_17 ?_
  refine aw_rV (As := [.ref (ad 3 0 s), .int 7]) (S := [.long g_7]) (v := some (.int (cs_sval (o.1 0) l s 7))) (o2 := o) (ct_X7_sval_7 G hl hs hh) (mm_fit_of cbX7_subscriberValue (by decide) (by decide)) wq322 cvX7_subscriberValue wv7 rfl rfl rfl (Nat.le_of_ble_eq_true rfl) (by decide) (by decide) rfl dX7_mixSubscriber_19 ?_
  refine aw_i2l dX7_mixSubscriber_22 ?_
  refine aw_rS (As := [.long g_7, .long ((cs_sval (o.1 0) l s 7 : Int32).toInt64)]) (S := []) (v := some (.long (mx g_7 (cs_sval (o.1 0) l s 7)))) (o2 := o) ct_X7_mix (mm_fit_of cbX7_mix (by decide) (by decide)) wq255 wq256 rfl rfl (Nat.le_of_ble_eq_true rfl) (by decide) (by decide) rfl dX7_mixSubscriber_23 ?_
  obtain ⟨g_8, hg_8⟩ : ∃ z, z = mx g_7 (cs_sval (o.1 0) l s 7) := ⟨_, rfl⟩
  rw [← hg_8]
  refine aw_lstore (L2 := [some (.ref (ad 7 0 0)), some (.long h), none, some (.ref (ad 3 0 s)), some (.long g_8), none, some (.int 7)]) (by decide) rfl rfl dX7_mixSubscriber_26 ?_
  refine aw_iinc (n := 1) (x := 7) (v := 8) (L2 := [some (.ref (ad 7 0 0)), some (.long h), none, some (.ref (ad 3 0 s)), some (.long g_8), none, some (.int 8)]) rfl (by decide) (by decide) rfl rfl dX7_mixSubscriber_28 ?_
  refine aw_goto (tgt := 6) (by decide) dX7_mixSubscriber_31 ?_
  refine aw_iload (x := 8) rfl dX7_mixSubscriber_6 ?_
  refine aw_bipush (v := 8) (by decide) dX7_mixSubscriber_8 ?_
  refine aw_icmp_ge (tgt := 34) (by decide) dX7_mixSubscriber_10 (fun _ => ?_) (fun z => absurd z (by decide))
  refine aw_lload (x := g_8) rfl dX7_mixSubscriber_34 ?_
  exact aw_lret rfl (by decide) (by decide) dX7_mixSubscriber_36 ⟨by subst hg_8; subst hg_7; subst hg_6; subst hg_5; subst hg_4; subst hg_3; subst hg_2; subst hg_1; rfl, rfl⟩
