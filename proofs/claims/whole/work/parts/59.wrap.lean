/-! the law's wrappers -/
section
variable {ad : Nat → Nat → Nat → Nat} {M : mm_M} {pc : Nat} {L : List (Option Value)} {S : List Value} {o : wd_S} {cc cs : Nat} {F : (Option Value ⊕ String) → wd_S → Prop}
/-- a call on an object that throws E -/
theorem aw_cVx {M2 : mm_M} {E : String} {o2 : wd_S} {t j i ci idx n : Nat} {As st : List Value} (hG : CT ad M2 (.ref (ad t j i) :: As) o (XT E o2)) (hf : mm_fit M M2 n) (hl : Cond.methodLink (mm_my M).cls idx (mm_my M2) ∈ mm_B) (ho : cvo M2 ci) (hv : wd_v t j i) (ht : wd_k t = ci + 1) (hn : As.length = n) (hst : As.reverse ++ .ref (ad t j i) :: S = st) (hcat : (S.map fun v => v.category).sum ≤ 8) (hcc : cc + (mm_mo M2).cells ≤ (mm_mo M).cells) (hcs : cs + (mm_mo M2).slots ≤ (mm_mo M).slots) (d : decode (mm_mc M) pc = .ok (.invokevirtual idx, 3)) (k : AX ad M pc L o2 (cc + (mm_mo M2).cells) (cs + (mm_mo M2).slots) F E) : AW ad M pc L st o cc cs F :=
  aw_cV hG hf hl ho hv ht hn hst hcat hcc hcs d (fun v2 o3 q => by obtain ⟨q1, q2⟩ := q; cases q1) (fun E o3 q => by obtain ⟨q1, q2⟩ := q; cases q1; rw [q2]; exact k)
end
theorem lwv_addLoop {ad : Nat → Nat → Nat → Nat} {o o1 : wd_S} {v : Int32} (h : CT ad MX7_addLoop [.ref (ad 7 0 0)] o (OT (oI v o1))) : CT ad ML_addLoop [.ref (ad 7 0 0), .ref (ad 16 0 0)] o (RT (some (.int 0)) (wd_j o1 1 v.toInt64)) := by
  refine CT.ofH (L := [some (.ref (ad 7 0 0)), some (.ref (ad 16 0 0)), none]) (by decide) rfl (by decide) (Nat.le_of_ble_eq_true rfl) rfl ?_
  refine aw_aload_n (x := ad 16 0 0) rfl dL_addLoop_0 ?_
  refine aw_iconst (v := 0) (by decide) dL_addLoop_1 ?_
  refine aw_aload_n (x := ad 7 0 0) rfl dL_addLoop_2 ?_
  refine aw_rV (As := []) (S := [.int 0, .ref (ad 16 0 0)]) (v := some (.int v)) (o2 := o1) h (mm_fit_of cbX7_addLoop (by decide) (by decide)) wq351 cvX7_addLoop wv7 rfl rfl rfl (Nat.le_of_ble_eq_true rfl) (by decide) (by decide) rfl dL_addLoop_3 ?_
  refine aw_i2l dL_addLoop_6 ?_
  refine aw_lst rfl dL_addLoop_7 ?_
  refine aw_goto (tgt := 14) (by decide) dL_addLoop_8 ?_
  refine aw_iconst (v := 0) (by decide) dL_addLoop_14 ?_
  exact aw_iret rfl (by decide) (by decide) dL_addLoop_15 ⟨rfl, by first | rfl | (simp; done)⟩
theorem lwx_addLoop_eS {ad : Nat → Nat → Nat → Nat} {o : wd_S} (h : CT ad MX7_addLoop [.ref (ad 7 0 0)] o (OT (oX eS o))) : CT ad ML_addLoop [.ref (ad 7 0 0), .ref (ad 16 0 0)] o (RT (some (.int 1)) o) := by
  refine CT.ofH (L := [some (.ref (ad 7 0 0)), some (.ref (ad 16 0 0)), none]) (by decide) rfl (by decide) (Nat.le_of_ble_eq_true rfl) rfl ?_
  refine aw_aload_n (x := ad 16 0 0) rfl dL_addLoop_0 ?_
  refine aw_iconst (v := 0) (by decide) dL_addLoop_1 ?_
  refine aw_aload_n (x := ad 7 0 0) rfl dL_addLoop_2 ?_
  refine aw_cVx (As := []) (S := [.int 0, .ref (ad 16 0 0)]) (E := eS) (o2 := o) h (mm_fit_of cbX7_addLoop (by decide) (by decide)) wq351 cvX7_addLoop wv7 rfl rfl rfl (Nat.le_of_ble_eq_true rfl) (by decide) (by decide) dL_addLoop_3 ?_
  refine ax_catch [] (0, 8, 11, 13) [] rfl (fun _ h => absurd h List.not_mem_nil) (by decide) (by decide) wq350 wq357 (fun q => ?_)
  refine aw_astore_n (L2 := [some (.ref (ad 7 0 0)), some (.ref (ad 16 0 0)), some (.ref q)]) (by decide) rfl rfl dL_addLoop_11 ?_
  refine aw_iconst (v := 1) (by decide) dL_addLoop_12 ?_
  exact aw_iret rfl (by decide) (by decide) dL_addLoop_13 ⟨rfl, rfl⟩
theorem lwv_addSubscriber {ad : Nat → Nat → Nat → Nat} {o o1 : wd_S} {v : Int32} {x y z : Int32} (h : CT ad MX7_addSubscriber [.ref (ad 7 0 0), .int x, .int y, .int z] o (OT (oI v o1))) : CT ad ML_addSubscriber [.ref (ad 7 0 0), .int x, .int y, .int z, .ref (ad 16 0 0)] o (RT (some (.int 0)) (wd_j o1 1 v.toInt64)) := by
  refine CT.ofH (L := [some (.ref (ad 7 0 0)), some (.int x), some (.int y), some (.int z), some (.ref (ad 16 0 0)), none]) (by decide) rfl (by decide) (Nat.le_of_ble_eq_true rfl) rfl ?_
  refine aw_aload (x := ad 16 0 0) rfl dL_addSubscriber_0 ?_
  refine aw_iconst (v := 0) (by decide) dL_addSubscriber_2 ?_
  refine aw_aload_n (x := ad 7 0 0) rfl dL_addSubscriber_3 ?_
  refine aw_iload_n (x := x) rfl dL_addSubscriber_4 ?_
  refine aw_iload_n (x := y) rfl dL_addSubscriber_5 ?_
  refine aw_iload_n (x := z) rfl dL_addSubscriber_6 ?_
  refine aw_rV (As := [.int x, .int y, .int z]) (S := [.int 0, .ref (ad 16 0 0)]) (v := some (.int v)) (o2 := o1) h (mm_fit_of cbX7_addSubscriber (by decide) (by decide)) wq456 cvX7_addSubscriber wv7 rfl rfl rfl (Nat.le_of_ble_eq_true rfl) (by decide) (by decide) rfl dL_addSubscriber_7 ?_
  refine aw_i2l dL_addSubscriber_10 ?_
  refine aw_lst rfl dL_addSubscriber_11 ?_
  refine aw_goto (tgt := 27) (by decide) dL_addSubscriber_12 ?_
  refine aw_iconst (v := 0) (by decide) dL_addSubscriber_27 ?_
  exact aw_iret rfl (by decide) (by decide) dL_addSubscriber_28 ⟨rfl, by first | rfl | (simp; done)⟩
theorem lwx_addSubscriber_eI {ad : Nat → Nat → Nat → Nat} {o : wd_S} {x y z : Int32} (h : CT ad MX7_addSubscriber [.ref (ad 7 0 0), .int x, .int y, .int z] o (OT (oX eI o))) : CT ad ML_addSubscriber [.ref (ad 7 0 0), .int x, .int y, .int z, .ref (ad 16 0 0)] o (RT (some (.int 1)) o) := by
  refine CT.ofH (L := [some (.ref (ad 7 0 0)), some (.int x), some (.int y), some (.int z), some (.ref (ad 16 0 0)), none]) (by decide) rfl (by decide) (Nat.le_of_ble_eq_true rfl) rfl ?_
  refine aw_aload (x := ad 16 0 0) rfl dL_addSubscriber_0 ?_
  refine aw_iconst (v := 0) (by decide) dL_addSubscriber_2 ?_
  refine aw_aload_n (x := ad 7 0 0) rfl dL_addSubscriber_3 ?_
  refine aw_iload_n (x := x) rfl dL_addSubscriber_4 ?_
  refine aw_iload_n (x := y) rfl dL_addSubscriber_5 ?_
  refine aw_iload_n (x := z) rfl dL_addSubscriber_6 ?_
  refine aw_cVx (As := [.int x, .int y, .int z]) (S := [.int 0, .ref (ad 16 0 0)]) (E := eI) (o2 := o) h (mm_fit_of cbX7_addSubscriber (by decide) (by decide)) wq456 cvX7_addSubscriber wv7 rfl rfl rfl (Nat.le_of_ble_eq_true rfl) (by decide) (by decide) dL_addSubscriber_7 ?_
  refine ax_catch [] (0, 12, 15, 19) [(0, 12, 19, 21), (0, 12, 23, 13)] rfl (fun _ h => absurd h List.not_mem_nil) (by decide) (by decide) wq454 wq466 (fun q => ?_)
  refine aw_astore (L2 := [some (.ref (ad 7 0 0)), some (.int x), some (.int y), some (.int z), some (.ref (ad 16 0 0)), some (.ref q)]) (by decide) rfl rfl dL_addSubscriber_15 ?_
  refine aw_iconst (v := 1) (by decide) dL_addSubscriber_17 ?_
  exact aw_iret rfl (by decide) (by decide) dL_addSubscriber_18 ⟨rfl, rfl⟩
theorem lwx_addSubscriber_eA {ad : Nat → Nat → Nat → Nat} {o : wd_S} {x y z : Int32} (h : CT ad MX7_addSubscriber [.ref (ad 7 0 0), .int x, .int y, .int z] o (OT (oX eA o))) : CT ad ML_addSubscriber [.ref (ad 7 0 0), .int x, .int y, .int z, .ref (ad 16 0 0)] o (RT (some (.int 2)) o) := by
  refine CT.ofH (L := [some (.ref (ad 7 0 0)), some (.int x), some (.int y), some (.int z), some (.ref (ad 16 0 0)), none]) (by decide) rfl (by decide) (Nat.le_of_ble_eq_true rfl) rfl ?_
  refine aw_aload (x := ad 16 0 0) rfl dL_addSubscriber_0 ?_
  refine aw_iconst (v := 0) (by decide) dL_addSubscriber_2 ?_
  refine aw_aload_n (x := ad 7 0 0) rfl dL_addSubscriber_3 ?_
  refine aw_iload_n (x := x) rfl dL_addSubscriber_4 ?_
  refine aw_iload_n (x := y) rfl dL_addSubscriber_5 ?_
  refine aw_iload_n (x := z) rfl dL_addSubscriber_6 ?_
  refine aw_cVx (As := [.int x, .int y, .int z]) (S := [.int 0, .ref (ad 16 0 0)]) (E := eA) (o2 := o) h (mm_fit_of cbX7_addSubscriber (by decide) (by decide)) wq456 cvX7_addSubscriber wv7 rfl rfl rfl (Nat.le_of_ble_eq_true rfl) (by decide) (by decide) dL_addSubscriber_7 ?_
  refine ax_catch [(0, 12, 15, 19)] (0, 12, 19, 21) [(0, 12, 23, 13)] rfl (List.forall_mem_cons.mpr ⟨⟨by decide, _, wq454, by decide⟩, fun _ h => absurd h List.not_mem_nil⟩) (by decide) (by decide) wq455 wq488 (fun q => ?_)
  refine aw_astore (L2 := [some (.ref (ad 7 0 0)), some (.int x), some (.int y), some (.int z), some (.ref (ad 16 0 0)), some (.ref q)]) (by decide) rfl rfl dL_addSubscriber_19 ?_
  refine aw_iconst (v := 2) (by decide) dL_addSubscriber_21 ?_
  exact aw_iret rfl (by decide) (by decide) dL_addSubscriber_22 ⟨rfl, rfl⟩
theorem lwx_addSubscriber_eS {ad : Nat → Nat → Nat → Nat} {o : wd_S} {x y z : Int32} (h : CT ad MX7_addSubscriber [.ref (ad 7 0 0), .int x, .int y, .int z] o (OT (oX eS o))) : CT ad ML_addSubscriber [.ref (ad 7 0 0), .int x, .int y, .int z, .ref (ad 16 0 0)] o (RT (some (.int 3)) o) := by
  refine CT.ofH (L := [some (.ref (ad 7 0 0)), some (.int x), some (.int y), some (.int z), some (.ref (ad 16 0 0)), none]) (by decide) rfl (by decide) (Nat.le_of_ble_eq_true rfl) rfl ?_
  refine aw_aload (x := ad 16 0 0) rfl dL_addSubscriber_0 ?_
  refine aw_iconst (v := 0) (by decide) dL_addSubscriber_2 ?_
  refine aw_aload_n (x := ad 7 0 0) rfl dL_addSubscriber_3 ?_
  refine aw_iload_n (x := x) rfl dL_addSubscriber_4 ?_
  refine aw_iload_n (x := y) rfl dL_addSubscriber_5 ?_
  refine aw_iload_n (x := z) rfl dL_addSubscriber_6 ?_
  refine aw_cVx (As := [.int x, .int y, .int z]) (S := [.int 0, .ref (ad 16 0 0)]) (E := eS) (o2 := o) h (mm_fit_of cbX7_addSubscriber (by decide) (by decide)) wq456 cvX7_addSubscriber wv7 rfl rfl rfl (Nat.le_of_ble_eq_true rfl) (by decide) (by decide) dL_addSubscriber_7 ?_
  refine ax_catch [(0, 12, 15, 19), (0, 12, 19, 21)] (0, 12, 23, 13) [] rfl (List.forall_mem_cons.mpr ⟨⟨by decide, _, wq454, by decide⟩, List.forall_mem_cons.mpr ⟨⟨by decide, _, wq455, by decide⟩, fun _ h => absurd h List.not_mem_nil⟩⟩) (by decide) (by decide) wq350 wq357 (fun q => ?_)
  refine aw_astore (L2 := [some (.ref (ad 7 0 0)), some (.int x), some (.int y), some (.int z), some (.ref (ad 16 0 0)), some (.ref q)]) (by decide) rfl rfl dL_addSubscriber_23 ?_
  refine aw_iconst (v := 3) (by decide) dL_addSubscriber_25 ?_
  exact aw_iret rfl (by decide) (by decide) dL_addSubscriber_26 ⟨rfl, rfl⟩
theorem lwv_set {ad : Nat → Nat → Nat → Nat} {o o1 : wd_S} {v : Int32} {x y z : Int32} (h : CT ad MX7_set [.ref (ad 7 0 0), .int x, .int y, .int z] o (OT (oI v o1))) : CT ad ML_set [.ref (ad 7 0 0), .int x, .int y, .int z, .ref (ad 16 0 0)] o (RT (some (.int 0)) (wd_j o1 1 v.toInt64)) := by
  refine CT.ofH (L := [some (.ref (ad 7 0 0)), some (.int x), some (.int y), some (.int z), some (.ref (ad 16 0 0)), none]) (by decide) rfl (by decide) (Nat.le_of_ble_eq_true rfl) rfl ?_
  refine aw_aload (x := ad 16 0 0) rfl dL_set_0 ?_
  refine aw_iconst (v := 0) (by decide) dL_set_2 ?_
  refine aw_aload_n (x := ad 7 0 0) rfl dL_set_3 ?_
  refine aw_iload_n (x := x) rfl dL_set_4 ?_
  refine aw_iload_n (x := y) rfl dL_set_5 ?_
  refine aw_iload_n (x := z) rfl dL_set_6 ?_
  refine aw_rV (As := [.int x, .int y, .int z]) (S := [.int 0, .ref (ad 16 0 0)]) (v := some (.int v)) (o2 := o1) h (mm_fit_of cbX7_set (by decide) (by decide)) wq518 cvX7_set wv7 rfl rfl rfl (Nat.le_of_ble_eq_true rfl) (by decide) (by decide) rfl dL_set_7 ?_
  refine aw_i2l dL_set_10 ?_
  refine aw_lst rfl dL_set_11 ?_
  refine aw_goto (tgt := 27) (by decide) dL_set_12 ?_
  refine aw_iconst (v := 0) (by decide) dL_set_27 ?_
  exact aw_iret rfl (by decide) (by decide) dL_set_28 ⟨rfl, by first | rfl | (simp; done)⟩
theorem lwx_set_eI {ad : Nat → Nat → Nat → Nat} {o : wd_S} {x y z : Int32} (h : CT ad MX7_set [.ref (ad 7 0 0), .int x, .int y, .int z] o (OT (oX eI o))) : CT ad ML_set [.ref (ad 7 0 0), .int x, .int y, .int z, .ref (ad 16 0 0)] o (RT (some (.int 1)) o) := by
  refine CT.ofH (L := [some (.ref (ad 7 0 0)), some (.int x), some (.int y), some (.int z), some (.ref (ad 16 0 0)), none]) (by decide) rfl (by decide) (Nat.le_of_ble_eq_true rfl) rfl ?_
  refine aw_aload (x := ad 16 0 0) rfl dL_set_0 ?_
  refine aw_iconst (v := 0) (by decide) dL_set_2 ?_
  refine aw_aload_n (x := ad 7 0 0) rfl dL_set_3 ?_
  refine aw_iload_n (x := x) rfl dL_set_4 ?_
  refine aw_iload_n (x := y) rfl dL_set_5 ?_
  refine aw_iload_n (x := z) rfl dL_set_6 ?_
  refine aw_cVx (As := [.int x, .int y, .int z]) (S := [.int 0, .ref (ad 16 0 0)]) (E := eI) (o2 := o) h (mm_fit_of cbX7_set (by decide) (by decide)) wq518 cvX7_set wv7 rfl rfl rfl (Nat.le_of_ble_eq_true rfl) (by decide) (by decide) dL_set_7 ?_
  refine ax_catch [] (0, 12, 15, 19) [(0, 12, 19, 21), (0, 12, 23, 13)] rfl (fun _ h => absurd h List.not_mem_nil) (by decide) (by decide) wq454 wq466 (fun q => ?_)
  refine aw_astore (L2 := [some (.ref (ad 7 0 0)), some (.int x), some (.int y), some (.int z), some (.ref (ad 16 0 0)), some (.ref q)]) (by decide) rfl rfl dL_set_15 ?_
  refine aw_iconst (v := 1) (by decide) dL_set_17 ?_
  exact aw_iret rfl (by decide) (by decide) dL_set_18 ⟨rfl, rfl⟩
theorem lwx_set_eA {ad : Nat → Nat → Nat → Nat} {o : wd_S} {x y z : Int32} (h : CT ad MX7_set [.ref (ad 7 0 0), .int x, .int y, .int z] o (OT (oX eA o))) : CT ad ML_set [.ref (ad 7 0 0), .int x, .int y, .int z, .ref (ad 16 0 0)] o (RT (some (.int 2)) o) := by
  refine CT.ofH (L := [some (.ref (ad 7 0 0)), some (.int x), some (.int y), some (.int z), some (.ref (ad 16 0 0)), none]) (by decide) rfl (by decide) (Nat.le_of_ble_eq_true rfl) rfl ?_
  refine aw_aload (x := ad 16 0 0) rfl dL_set_0 ?_
  refine aw_iconst (v := 0) (by decide) dL_set_2 ?_
  refine aw_aload_n (x := ad 7 0 0) rfl dL_set_3 ?_
  refine aw_iload_n (x := x) rfl dL_set_4 ?_
  refine aw_iload_n (x := y) rfl dL_set_5 ?_
  refine aw_iload_n (x := z) rfl dL_set_6 ?_
  refine aw_cVx (As := [.int x, .int y, .int z]) (S := [.int 0, .ref (ad 16 0 0)]) (E := eA) (o2 := o) h (mm_fit_of cbX7_set (by decide) (by decide)) wq518 cvX7_set wv7 rfl rfl rfl (Nat.le_of_ble_eq_true rfl) (by decide) (by decide) dL_set_7 ?_
  refine ax_catch [(0, 12, 15, 19)] (0, 12, 19, 21) [(0, 12, 23, 13)] rfl (List.forall_mem_cons.mpr ⟨⟨by decide, _, wq454, by decide⟩, fun _ h => absurd h List.not_mem_nil⟩) (by decide) (by decide) wq455 wq488 (fun q => ?_)
  refine aw_astore (L2 := [some (.ref (ad 7 0 0)), some (.int x), some (.int y), some (.int z), some (.ref (ad 16 0 0)), some (.ref q)]) (by decide) rfl rfl dL_set_19 ?_
  refine aw_iconst (v := 2) (by decide) dL_set_21 ?_
  exact aw_iret rfl (by decide) (by decide) dL_set_22 ⟨rfl, rfl⟩
theorem lwx_set_eS {ad : Nat → Nat → Nat → Nat} {o : wd_S} {x y z : Int32} (h : CT ad MX7_set [.ref (ad 7 0 0), .int x, .int y, .int z] o (OT (oX eS o))) : CT ad ML_set [.ref (ad 7 0 0), .int x, .int y, .int z, .ref (ad 16 0 0)] o (RT (some (.int 3)) o) := by
  refine CT.ofH (L := [some (.ref (ad 7 0 0)), some (.int x), some (.int y), some (.int z), some (.ref (ad 16 0 0)), none]) (by decide) rfl (by decide) (Nat.le_of_ble_eq_true rfl) rfl ?_
  refine aw_aload (x := ad 16 0 0) rfl dL_set_0 ?_
  refine aw_iconst (v := 0) (by decide) dL_set_2 ?_
  refine aw_aload_n (x := ad 7 0 0) rfl dL_set_3 ?_
  refine aw_iload_n (x := x) rfl dL_set_4 ?_
  refine aw_iload_n (x := y) rfl dL_set_5 ?_
  refine aw_iload_n (x := z) rfl dL_set_6 ?_
  refine aw_cVx (As := [.int x, .int y, .int z]) (S := [.int 0, .ref (ad 16 0 0)]) (E := eS) (o2 := o) h (mm_fit_of cbX7_set (by decide) (by decide)) wq518 cvX7_set wv7 rfl rfl rfl (Nat.le_of_ble_eq_true rfl) (by decide) (by decide) dL_set_7 ?_
  refine ax_catch [(0, 12, 15, 19), (0, 12, 19, 21)] (0, 12, 23, 13) [] rfl (List.forall_mem_cons.mpr ⟨⟨by decide, _, wq454, by decide⟩, List.forall_mem_cons.mpr ⟨⟨by decide, _, wq455, by decide⟩, fun _ h => absurd h List.not_mem_nil⟩⟩) (by decide) (by decide) wq350 wq357 (fun q => ?_)
  refine aw_astore (L2 := [some (.ref (ad 7 0 0)), some (.int x), some (.int y), some (.int z), some (.ref (ad 16 0 0)), some (.ref q)]) (by decide) rfl rfl dL_set_23 ?_
  refine aw_iconst (v := 3) (by decide) dL_set_25 ?_
  exact aw_iret rfl (by decide) (by decide) dL_set_26 ⟨rfl, rfl⟩
theorem lwv_subscriber {ad : Nat → Nat → Nat → Nat} {o o1 : wd_S} {v : Int32} {x y : Int32} (h : CT ad MX7_subscriber [.ref (ad 7 0 0), .int x, .int y] o (OT (oI v o1))) : CT ad ML_subscriber [.ref (ad 7 0 0), .int x, .int y, .ref (ad 16 0 0)] o (RT (some (.int 0)) (wd_j o1 1 v.toInt64)) := by
  refine CT.ofH (L := [some (.ref (ad 7 0 0)), some (.int x), some (.int y), some (.ref (ad 16 0 0)), none]) (by decide) rfl (by decide) (Nat.le_of_ble_eq_true rfl) rfl ?_
  refine aw_aload_n (x := ad 16 0 0) rfl dL_subscriber_0 ?_
  refine aw_iconst (v := 0) (by decide) dL_subscriber_1 ?_
  refine aw_aload_n (x := ad 7 0 0) rfl dL_subscriber_2 ?_
  refine aw_iload_n (x := x) rfl dL_subscriber_3 ?_
  refine aw_iload_n (x := y) rfl dL_subscriber_4 ?_
  refine aw_rV (As := [.int x, .int y]) (S := [.int 0, .ref (ad 16 0 0)]) (v := some (.int v)) (o2 := o1) h (mm_fit_of cbX7_subscriber (by decide) (by decide)) wq540 cvX7_subscriber wv7 rfl rfl rfl (Nat.le_of_ble_eq_true rfl) (by decide) (by decide) rfl dL_subscriber_5 ?_
  refine aw_i2l dL_subscriber_8 ?_
  refine aw_lst rfl dL_subscriber_9 ?_
  refine aw_goto (tgt := 21) (by decide) dL_subscriber_10 ?_
  refine aw_iconst (v := 0) (by decide) dL_subscriber_21 ?_
  exact aw_iret rfl (by decide) (by decide) dL_subscriber_22 ⟨rfl, by first | rfl | (simp; done)⟩
theorem lwx_subscriber_eI {ad : Nat → Nat → Nat → Nat} {o : wd_S} {x y : Int32} (h : CT ad MX7_subscriber [.ref (ad 7 0 0), .int x, .int y] o (OT (oX eI o))) : CT ad ML_subscriber [.ref (ad 7 0 0), .int x, .int y, .ref (ad 16 0 0)] o (RT (some (.int 1)) o) := by
  refine CT.ofH (L := [some (.ref (ad 7 0 0)), some (.int x), some (.int y), some (.ref (ad 16 0 0)), none]) (by decide) rfl (by decide) (Nat.le_of_ble_eq_true rfl) rfl ?_
  refine aw_aload_n (x := ad 16 0 0) rfl dL_subscriber_0 ?_
  refine aw_iconst (v := 0) (by decide) dL_subscriber_1 ?_
  refine aw_aload_n (x := ad 7 0 0) rfl dL_subscriber_2 ?_
  refine aw_iload_n (x := x) rfl dL_subscriber_3 ?_
  refine aw_iload_n (x := y) rfl dL_subscriber_4 ?_
  refine aw_cVx (As := [.int x, .int y]) (S := [.int 0, .ref (ad 16 0 0)]) (E := eI) (o2 := o) h (mm_fit_of cbX7_subscriber (by decide) (by decide)) wq540 cvX7_subscriber wv7 rfl rfl rfl (Nat.le_of_ble_eq_true rfl) (by decide) (by decide) dL_subscriber_5 ?_
  refine ax_catch [] (0, 10, 13, 19) [(0, 10, 17, 21)] rfl (fun _ h => absurd h List.not_mem_nil) (by decide) (by decide) wq454 wq466 (fun q => ?_)
  refine aw_astore (L2 := [some (.ref (ad 7 0 0)), some (.int x), some (.int y), some (.ref (ad 16 0 0)), some (.ref q)]) (by decide) rfl rfl dL_subscriber_13 ?_
  refine aw_iconst (v := 1) (by decide) dL_subscriber_15 ?_
  exact aw_iret rfl (by decide) (by decide) dL_subscriber_16 ⟨rfl, rfl⟩
theorem lwx_subscriber_eA {ad : Nat → Nat → Nat → Nat} {o : wd_S} {x y : Int32} (h : CT ad MX7_subscriber [.ref (ad 7 0 0), .int x, .int y] o (OT (oX eA o))) : CT ad ML_subscriber [.ref (ad 7 0 0), .int x, .int y, .ref (ad 16 0 0)] o (RT (some (.int 2)) o) := by
  refine CT.ofH (L := [some (.ref (ad 7 0 0)), some (.int x), some (.int y), some (.ref (ad 16 0 0)), none]) (by decide) rfl (by decide) (Nat.le_of_ble_eq_true rfl) rfl ?_
  refine aw_aload_n (x := ad 16 0 0) rfl dL_subscriber_0 ?_
  refine aw_iconst (v := 0) (by decide) dL_subscriber_1 ?_
  refine aw_aload_n (x := ad 7 0 0) rfl dL_subscriber_2 ?_
  refine aw_iload_n (x := x) rfl dL_subscriber_3 ?_
  refine aw_iload_n (x := y) rfl dL_subscriber_4 ?_
  refine aw_cVx (As := [.int x, .int y]) (S := [.int 0, .ref (ad 16 0 0)]) (E := eA) (o2 := o) h (mm_fit_of cbX7_subscriber (by decide) (by decide)) wq540 cvX7_subscriber wv7 rfl rfl rfl (Nat.le_of_ble_eq_true rfl) (by decide) (by decide) dL_subscriber_5 ?_
  refine ax_catch [(0, 10, 13, 19)] (0, 10, 17, 21) [] rfl (List.forall_mem_cons.mpr ⟨⟨by decide, _, wq454, by decide⟩, fun _ h => absurd h List.not_mem_nil⟩) (by decide) (by decide) wq455 wq488 (fun q => ?_)
  refine aw_astore (L2 := [some (.ref (ad 7 0 0)), some (.int x), some (.int y), some (.ref (ad 16 0 0)), some (.ref q)]) (by decide) rfl rfl dL_subscriber_17 ?_
  refine aw_iconst (v := 2) (by decide) dL_subscriber_19 ?_
  exact aw_iret rfl (by decide) (by decide) dL_subscriber_20 ⟨rfl, rfl⟩
theorem lwv_loop {ad : Nat → Nat → Nat → Nat} {o o1 : wd_S} {v : Int32} {x y : Int32} (h : CT ad MX7_loop [.ref (ad 7 0 0), .int x, .int y] o (OT (oI v o1))) : CT ad ML_loop [.ref (ad 7 0 0), .int x, .int y, .ref (ad 16 0 0)] o (RT (some (.int 0)) (wd_j o1 1 v.toInt64)) := by
  refine CT.ofH (L := [some (.ref (ad 7 0 0)), some (.int x), some (.int y), some (.ref (ad 16 0 0)), none]) (by decide) rfl (by decide) (Nat.le_of_ble_eq_true rfl) rfl ?_
  refine aw_aload_n (x := ad 16 0 0) rfl dL_loop_0 ?_
  refine aw_iconst (v := 0) (by decide) dL_loop_1 ?_
  refine aw_aload_n (x := ad 7 0 0) rfl dL_loop_2 ?_
  refine aw_iload_n (x := x) rfl dL_loop_3 ?_
  refine aw_iload_n (x := y) rfl dL_loop_4 ?_
  refine aw_rV (As := [.int x, .int y]) (S := [.int 0, .ref (ad 16 0 0)]) (v := some (.int v)) (o2 := o1) h (mm_fit_of cbX7_loop (by decide) (by decide)) wq548 cvX7_loop wv7 rfl rfl rfl (Nat.le_of_ble_eq_true rfl) (by decide) (by decide) rfl dL_loop_5 ?_
  refine aw_i2l dL_loop_8 ?_
  refine aw_lst rfl dL_loop_9 ?_
  refine aw_goto (tgt := 21) (by decide) dL_loop_10 ?_
  refine aw_iconst (v := 0) (by decide) dL_loop_21 ?_
  exact aw_iret rfl (by decide) (by decide) dL_loop_22 ⟨rfl, by first | rfl | (simp; done)⟩
theorem lwx_loop_eI {ad : Nat → Nat → Nat → Nat} {o : wd_S} {x y : Int32} (h : CT ad MX7_loop [.ref (ad 7 0 0), .int x, .int y] o (OT (oX eI o))) : CT ad ML_loop [.ref (ad 7 0 0), .int x, .int y, .ref (ad 16 0 0)] o (RT (some (.int 1)) o) := by
  refine CT.ofH (L := [some (.ref (ad 7 0 0)), some (.int x), some (.int y), some (.ref (ad 16 0 0)), none]) (by decide) rfl (by decide) (Nat.le_of_ble_eq_true rfl) rfl ?_
  refine aw_aload_n (x := ad 16 0 0) rfl dL_loop_0 ?_
  refine aw_iconst (v := 0) (by decide) dL_loop_1 ?_
  refine aw_aload_n (x := ad 7 0 0) rfl dL_loop_2 ?_
  refine aw_iload_n (x := x) rfl dL_loop_3 ?_
  refine aw_iload_n (x := y) rfl dL_loop_4 ?_
  refine aw_cVx (As := [.int x, .int y]) (S := [.int 0, .ref (ad 16 0 0)]) (E := eI) (o2 := o) h (mm_fit_of cbX7_loop (by decide) (by decide)) wq548 cvX7_loop wv7 rfl rfl rfl (Nat.le_of_ble_eq_true rfl) (by decide) (by decide) dL_loop_5 ?_
  refine ax_catch [] (0, 10, 13, 19) [(0, 10, 17, 21)] rfl (fun _ h => absurd h List.not_mem_nil) (by decide) (by decide) wq454 wq466 (fun q => ?_)
  refine aw_astore (L2 := [some (.ref (ad 7 0 0)), some (.int x), some (.int y), some (.ref (ad 16 0 0)), some (.ref q)]) (by decide) rfl rfl dL_loop_13 ?_
  refine aw_iconst (v := 1) (by decide) dL_loop_15 ?_
  exact aw_iret rfl (by decide) (by decide) dL_loop_16 ⟨rfl, rfl⟩
theorem lwx_loop_eA {ad : Nat → Nat → Nat → Nat} {o : wd_S} {x y : Int32} (h : CT ad MX7_loop [.ref (ad 7 0 0), .int x, .int y] o (OT (oX eA o))) : CT ad ML_loop [.ref (ad 7 0 0), .int x, .int y, .ref (ad 16 0 0)] o (RT (some (.int 2)) o) := by
  refine CT.ofH (L := [some (.ref (ad 7 0 0)), some (.int x), some (.int y), some (.ref (ad 16 0 0)), none]) (by decide) rfl (by decide) (Nat.le_of_ble_eq_true rfl) rfl ?_
  refine aw_aload_n (x := ad 16 0 0) rfl dL_loop_0 ?_
  refine aw_iconst (v := 0) (by decide) dL_loop_1 ?_
  refine aw_aload_n (x := ad 7 0 0) rfl dL_loop_2 ?_
  refine aw_iload_n (x := x) rfl dL_loop_3 ?_
  refine aw_iload_n (x := y) rfl dL_loop_4 ?_
  refine aw_cVx (As := [.int x, .int y]) (S := [.int 0, .ref (ad 16 0 0)]) (E := eA) (o2 := o) h (mm_fit_of cbX7_loop (by decide) (by decide)) wq548 cvX7_loop wv7 rfl rfl rfl (Nat.le_of_ble_eq_true rfl) (by decide) (by decide) dL_loop_5 ?_
  refine ax_catch [(0, 10, 13, 19)] (0, 10, 17, 21) [] rfl (List.forall_mem_cons.mpr ⟨⟨by decide, _, wq454, by decide⟩, fun _ h => absurd h List.not_mem_nil⟩) (by decide) (by decide) wq455 wq488 (fun q => ?_)
  refine aw_astore (L2 := [some (.ref (ad 7 0 0)), some (.int x), some (.int y), some (.ref (ad 16 0 0)), some (.ref q)]) (by decide) rfl rfl dL_loop_17 ?_
  refine aw_iconst (v := 2) (by decide) dL_loop_19 ?_
  exact aw_iret rfl (by decide) (by decide) dL_loop_20 ⟨rfl, rfl⟩
theorem lwv_lift {ad : Nat → Nat → Nat → Nat} {o o1 : wd_S} {v : Int32} {x : Int32} (h : CT ad MX7_lift [.ref (ad 7 0 0), .int x] o (OT (oI v o1))) : CT ad ML_lift [.ref (ad 7 0 0), .int x, .ref (ad 16 0 0)] o (RT (some (.int 0)) (wd_j o1 1 v.toInt64)) := by
  refine CT.ofH (L := [some (.ref (ad 7 0 0)), some (.int x), some (.ref (ad 16 0 0)), none]) (by decide) rfl (by decide) (Nat.le_of_ble_eq_true rfl) rfl ?_
  refine aw_aload_n (x := ad 16 0 0) rfl dL_lift_0 ?_
  refine aw_iconst (v := 0) (by decide) dL_lift_1 ?_
  refine aw_aload_n (x := ad 7 0 0) rfl dL_lift_2 ?_
  refine aw_iload_n (x := x) rfl dL_lift_3 ?_
  refine aw_rV (As := [.int x]) (S := [.int 0, .ref (ad 16 0 0)]) (v := some (.int v)) (o2 := o1) h (mm_fit_of cbX7_lift (by decide) (by decide)) wq555 cvX7_lift wv7 rfl rfl rfl (Nat.le_of_ble_eq_true rfl) (by decide) (by decide) rfl dL_lift_4 ?_
  refine aw_i2l dL_lift_7 ?_
  refine aw_lst rfl dL_lift_8 ?_
  refine aw_goto (tgt := 18) (by decide) dL_lift_9 ?_
  refine aw_iconst (v := 0) (by decide) dL_lift_18 ?_
  exact aw_iret rfl (by decide) (by decide) dL_lift_19 ⟨rfl, by first | rfl | (simp; done)⟩
theorem lwx_lift_eI {ad : Nat → Nat → Nat → Nat} {o : wd_S} {x : Int32} (h : CT ad MX7_lift [.ref (ad 7 0 0), .int x] o (OT (oX eI o))) : CT ad ML_lift [.ref (ad 7 0 0), .int x, .ref (ad 16 0 0)] o (RT (some (.int 1)) o) := by
  refine CT.ofH (L := [some (.ref (ad 7 0 0)), some (.int x), some (.ref (ad 16 0 0)), none]) (by decide) rfl (by decide) (Nat.le_of_ble_eq_true rfl) rfl ?_
  refine aw_aload_n (x := ad 16 0 0) rfl dL_lift_0 ?_
  refine aw_iconst (v := 0) (by decide) dL_lift_1 ?_
  refine aw_aload_n (x := ad 7 0 0) rfl dL_lift_2 ?_
  refine aw_iload_n (x := x) rfl dL_lift_3 ?_
  refine aw_cVx (As := [.int x]) (S := [.int 0, .ref (ad 16 0 0)]) (E := eI) (o2 := o) h (mm_fit_of cbX7_lift (by decide) (by decide)) wq555 cvX7_lift wv7 rfl rfl rfl (Nat.le_of_ble_eq_true rfl) (by decide) (by decide) dL_lift_4 ?_
  refine ax_catch [] (0, 9, 12, 19) [(0, 9, 15, 13)] rfl (fun _ h => absurd h List.not_mem_nil) (by decide) (by decide) wq454 wq466 (fun q => ?_)
  refine aw_astore_n (L2 := [some (.ref (ad 7 0 0)), some (.int x), some (.ref (ad 16 0 0)), some (.ref q)]) (by decide) rfl rfl dL_lift_12 ?_
  refine aw_iconst (v := 1) (by decide) dL_lift_13 ?_
  exact aw_iret rfl (by decide) (by decide) dL_lift_14 ⟨rfl, rfl⟩
theorem lwx_lift_eS {ad : Nat → Nat → Nat → Nat} {o : wd_S} {x : Int32} (h : CT ad MX7_lift [.ref (ad 7 0 0), .int x] o (OT (oX eS o))) : CT ad ML_lift [.ref (ad 7 0 0), .int x, .ref (ad 16 0 0)] o (RT (some (.int 2)) o) := by
  refine CT.ofH (L := [some (.ref (ad 7 0 0)), some (.int x), some (.ref (ad 16 0 0)), none]) (by decide) rfl (by decide) (Nat.le_of_ble_eq_true rfl) rfl ?_
  refine aw_aload_n (x := ad 16 0 0) rfl dL_lift_0 ?_
  refine aw_iconst (v := 0) (by decide) dL_lift_1 ?_
  refine aw_aload_n (x := ad 7 0 0) rfl dL_lift_2 ?_
  refine aw_iload_n (x := x) rfl dL_lift_3 ?_
  refine aw_cVx (As := [.int x]) (S := [.int 0, .ref (ad 16 0 0)]) (E := eS) (o2 := o) h (mm_fit_of cbX7_lift (by decide) (by decide)) wq555 cvX7_lift wv7 rfl rfl rfl (Nat.le_of_ble_eq_true rfl) (by decide) (by decide) dL_lift_4 ?_
  refine ax_catch [(0, 9, 12, 19)] (0, 9, 15, 13) [] rfl (List.forall_mem_cons.mpr ⟨⟨by decide, _, wq454, by decide⟩, fun _ h => absurd h List.not_mem_nil⟩) (by decide) (by decide) wq350 wq357 (fun q => ?_)
  refine aw_astore_n (L2 := [some (.ref (ad 7 0 0)), some (.int x), some (.ref (ad 16 0 0)), some (.ref q)]) (by decide) rfl rfl dL_lift_15 ?_
  refine aw_iconst (v := 2) (by decide) dL_lift_16 ?_
  exact aw_iret rfl (by decide) (by decide) dL_lift_17 ⟨rfl, rfl⟩
theorem lwv_hang {ad : Nat → Nat → Nat → Nat} {o o1 : wd_S} {v : Int32} {x : Int32} (h : CT ad MX7_hang [.ref (ad 7 0 0), .int x] o (OT (oI v o1))) : CT ad ML_hang [.ref (ad 7 0 0), .int x, .ref (ad 16 0 0)] o (RT (some (.int 0)) (wd_j o1 1 v.toInt64)) := by
  refine CT.ofH (L := [some (.ref (ad 7 0 0)), some (.int x), some (.ref (ad 16 0 0)), none]) (by decide) rfl (by decide) (Nat.le_of_ble_eq_true rfl) rfl ?_
  refine aw_aload_n (x := ad 16 0 0) rfl dL_hang_0 ?_
  refine aw_iconst (v := 0) (by decide) dL_hang_1 ?_
  refine aw_aload_n (x := ad 7 0 0) rfl dL_hang_2 ?_
  refine aw_iload_n (x := x) rfl dL_hang_3 ?_
  refine aw_rV (As := [.int x]) (S := [.int 0, .ref (ad 16 0 0)]) (v := some (.int v)) (o2 := o1) h (mm_fit_of cbX7_hang (by decide) (by decide)) wq598 cvX7_hang wv7 rfl rfl rfl (Nat.le_of_ble_eq_true rfl) (by decide) (by decide) rfl dL_hang_4 ?_
  refine aw_i2l dL_hang_7 ?_
  refine aw_lst rfl dL_hang_8 ?_
  refine aw_goto (tgt := 18) (by decide) dL_hang_9 ?_
  refine aw_iconst (v := 0) (by decide) dL_hang_18 ?_
  exact aw_iret rfl (by decide) (by decide) dL_hang_19 ⟨rfl, by first | rfl | (simp; done)⟩
theorem lwx_hang_eI {ad : Nat → Nat → Nat → Nat} {o : wd_S} {x : Int32} (h : CT ad MX7_hang [.ref (ad 7 0 0), .int x] o (OT (oX eI o))) : CT ad ML_hang [.ref (ad 7 0 0), .int x, .ref (ad 16 0 0)] o (RT (some (.int 1)) o) := by
  refine CT.ofH (L := [some (.ref (ad 7 0 0)), some (.int x), some (.ref (ad 16 0 0)), none]) (by decide) rfl (by decide) (Nat.le_of_ble_eq_true rfl) rfl ?_
  refine aw_aload_n (x := ad 16 0 0) rfl dL_hang_0 ?_
  refine aw_iconst (v := 0) (by decide) dL_hang_1 ?_
  refine aw_aload_n (x := ad 7 0 0) rfl dL_hang_2 ?_
  refine aw_iload_n (x := x) rfl dL_hang_3 ?_
  refine aw_cVx (As := [.int x]) (S := [.int 0, .ref (ad 16 0 0)]) (E := eI) (o2 := o) h (mm_fit_of cbX7_hang (by decide) (by decide)) wq598 cvX7_hang wv7 rfl rfl rfl (Nat.le_of_ble_eq_true rfl) (by decide) (by decide) dL_hang_4 ?_
  refine ax_catch [] (0, 9, 12, 19) [(0, 9, 15, 13)] rfl (fun _ h => absurd h List.not_mem_nil) (by decide) (by decide) wq454 wq466 (fun q => ?_)
  refine aw_astore_n (L2 := [some (.ref (ad 7 0 0)), some (.int x), some (.ref (ad 16 0 0)), some (.ref q)]) (by decide) rfl rfl dL_hang_12 ?_
  refine aw_iconst (v := 1) (by decide) dL_hang_13 ?_
  exact aw_iret rfl (by decide) (by decide) dL_hang_14 ⟨rfl, rfl⟩
theorem lwx_hang_eS {ad : Nat → Nat → Nat → Nat} {o : wd_S} {x : Int32} (h : CT ad MX7_hang [.ref (ad 7 0 0), .int x] o (OT (oX eS o))) : CT ad ML_hang [.ref (ad 7 0 0), .int x, .ref (ad 16 0 0)] o (RT (some (.int 2)) o) := by
  refine CT.ofH (L := [some (.ref (ad 7 0 0)), some (.int x), some (.ref (ad 16 0 0)), none]) (by decide) rfl (by decide) (Nat.le_of_ble_eq_true rfl) rfl ?_
  refine aw_aload_n (x := ad 16 0 0) rfl dL_hang_0 ?_
  refine aw_iconst (v := 0) (by decide) dL_hang_1 ?_
  refine aw_aload_n (x := ad 7 0 0) rfl dL_hang_2 ?_
  refine aw_iload_n (x := x) rfl dL_hang_3 ?_
  refine aw_cVx (As := [.int x]) (S := [.int 0, .ref (ad 16 0 0)]) (E := eS) (o2 := o) h (mm_fit_of cbX7_hang (by decide) (by decide)) wq598 cvX7_hang wv7 rfl rfl rfl (Nat.le_of_ble_eq_true rfl) (by decide) (by decide) dL_hang_4 ?_
  refine ax_catch [(0, 9, 12, 19)] (0, 9, 15, 13) [] rfl (List.forall_mem_cons.mpr ⟨⟨by decide, _, wq454, by decide⟩, fun _ h => absurd h List.not_mem_nil⟩) (by decide) (by decide) wq350 wq357 (fun q => ?_)
  refine aw_astore_n (L2 := [some (.ref (ad 7 0 0)), some (.int x), some (.ref (ad 16 0 0)), some (.ref q)]) (by decide) rfl rfl dL_hang_15 ?_
  refine aw_iconst (v := 2) (by decide) dL_hang_16 ?_
  exact aw_iret rfl (by decide) (by decide) dL_hang_17 ⟨rfl, rfl⟩
theorem lwv_dial {ad : Nat → Nat → Nat → Nat} {o o1 : wd_S} {v : Int32} {x y : Int32} (h : CT ad MX7_dial [.ref (ad 7 0 0), .int x, .int y] o (OT (oI v o1))) : CT ad ML_dial [.ref (ad 7 0 0), .int x, .int y, .ref (ad 16 0 0)] o (RT (some (.int 0)) (wd_j o1 1 v.toInt64)) := by
  refine CT.ofH (L := [some (.ref (ad 7 0 0)), some (.int x), some (.int y), some (.ref (ad 16 0 0)), none]) (by decide) rfl (by decide) (Nat.le_of_ble_eq_true rfl) rfl ?_
  refine aw_aload_n (x := ad 16 0 0) rfl dL_dial_0 ?_
  refine aw_iconst (v := 0) (by decide) dL_dial_1 ?_
  refine aw_aload_n (x := ad 7 0 0) rfl dL_dial_2 ?_
  refine aw_iload_n (x := x) rfl dL_dial_3 ?_
  refine aw_iload_n (x := y) rfl dL_dial_4 ?_
  refine aw_rV (As := [.int x, .int y]) (S := [.int 0, .ref (ad 16 0 0)]) (v := some (.int v)) (o2 := o1) h (mm_fit_of cbX7_dial (by decide) (by decide)) wq624 cvX7_dial wv7 rfl rfl rfl (Nat.le_of_ble_eq_true rfl) (by decide) (by decide) rfl dL_dial_5 ?_
  refine aw_i2l dL_dial_8 ?_
  refine aw_lst rfl dL_dial_9 ?_
  refine aw_goto (tgt := 21) (by decide) dL_dial_10 ?_
  refine aw_iconst (v := 0) (by decide) dL_dial_21 ?_
  exact aw_iret rfl (by decide) (by decide) dL_dial_22 ⟨rfl, by first | rfl | (simp; done)⟩
theorem lwx_dial_eI {ad : Nat → Nat → Nat → Nat} {o : wd_S} {x y : Int32} (h : CT ad MX7_dial [.ref (ad 7 0 0), .int x, .int y] o (OT (oX eI o))) : CT ad ML_dial [.ref (ad 7 0 0), .int x, .int y, .ref (ad 16 0 0)] o (RT (some (.int 1)) o) := by
  refine CT.ofH (L := [some (.ref (ad 7 0 0)), some (.int x), some (.int y), some (.ref (ad 16 0 0)), none]) (by decide) rfl (by decide) (Nat.le_of_ble_eq_true rfl) rfl ?_
  refine aw_aload_n (x := ad 16 0 0) rfl dL_dial_0 ?_
  refine aw_iconst (v := 0) (by decide) dL_dial_1 ?_
  refine aw_aload_n (x := ad 7 0 0) rfl dL_dial_2 ?_
  refine aw_iload_n (x := x) rfl dL_dial_3 ?_
  refine aw_iload_n (x := y) rfl dL_dial_4 ?_
  refine aw_cVx (As := [.int x, .int y]) (S := [.int 0, .ref (ad 16 0 0)]) (E := eI) (o2 := o) h (mm_fit_of cbX7_dial (by decide) (by decide)) wq624 cvX7_dial wv7 rfl rfl rfl (Nat.le_of_ble_eq_true rfl) (by decide) (by decide) dL_dial_5 ?_
  refine ax_catch [] (0, 10, 13, 19) [(0, 10, 17, 13)] rfl (fun _ h => absurd h List.not_mem_nil) (by decide) (by decide) wq454 wq466 (fun q => ?_)
  refine aw_astore (L2 := [some (.ref (ad 7 0 0)), some (.int x), some (.int y), some (.ref (ad 16 0 0)), some (.ref q)]) (by decide) rfl rfl dL_dial_13 ?_
  refine aw_iconst (v := 1) (by decide) dL_dial_15 ?_
  exact aw_iret rfl (by decide) (by decide) dL_dial_16 ⟨rfl, rfl⟩
theorem lwx_dial_eS {ad : Nat → Nat → Nat → Nat} {o : wd_S} {x y : Int32} (h : CT ad MX7_dial [.ref (ad 7 0 0), .int x, .int y] o (OT (oX eS o))) : CT ad ML_dial [.ref (ad 7 0 0), .int x, .int y, .ref (ad 16 0 0)] o (RT (some (.int 2)) o) := by
  refine CT.ofH (L := [some (.ref (ad 7 0 0)), some (.int x), some (.int y), some (.ref (ad 16 0 0)), none]) (by decide) rfl (by decide) (Nat.le_of_ble_eq_true rfl) rfl ?_
  refine aw_aload_n (x := ad 16 0 0) rfl dL_dial_0 ?_
  refine aw_iconst (v := 0) (by decide) dL_dial_1 ?_
  refine aw_aload_n (x := ad 7 0 0) rfl dL_dial_2 ?_
  refine aw_iload_n (x := x) rfl dL_dial_3 ?_
  refine aw_iload_n (x := y) rfl dL_dial_4 ?_
  refine aw_cVx (As := [.int x, .int y]) (S := [.int 0, .ref (ad 16 0 0)]) (E := eS) (o2 := o) h (mm_fit_of cbX7_dial (by decide) (by decide)) wq624 cvX7_dial wv7 rfl rfl rfl (Nat.le_of_ble_eq_true rfl) (by decide) (by decide) dL_dial_5 ?_
  refine ax_catch [(0, 10, 13, 19)] (0, 10, 17, 13) [] rfl (List.forall_mem_cons.mpr ⟨⟨by decide, _, wq454, by decide⟩, fun _ h => absurd h List.not_mem_nil⟩) (by decide) (by decide) wq350 wq357 (fun q => ?_)
  refine aw_astore (L2 := [some (.ref (ad 7 0 0)), some (.int x), some (.int y), some (.ref (ad 16 0 0)), some (.ref q)]) (by decide) rfl rfl dL_dial_17 ?_
  refine aw_iconst (v := 2) (by decide) dL_dial_19 ?_
  exact aw_iret rfl (by decide) (by decide) dL_dial_20 ⟨rfl, rfl⟩
theorem lwv_tick {ad : Nat → Nat → Nat → Nat} {o o1 : wd_S} {v : Int32} {x : Int32} (h : CT ad MX7_tick [.ref (ad 7 0 0), .int x] o (OT (oI v o1))) : CT ad ML_tick [.ref (ad 7 0 0), .int x, .ref (ad 16 0 0)] o (RT (some (.int 0)) (wd_j o1 1 v.toInt64)) := by
  refine CT.ofH (L := [some (.ref (ad 7 0 0)), some (.int x), some (.ref (ad 16 0 0)), none]) (by decide) rfl (by decide) (Nat.le_of_ble_eq_true rfl) rfl ?_
  refine aw_aload_n (x := ad 16 0 0) rfl dL_tick_0 ?_
  refine aw_iconst (v := 0) (by decide) dL_tick_1 ?_
  refine aw_aload_n (x := ad 7 0 0) rfl dL_tick_2 ?_
  refine aw_iload_n (x := x) rfl dL_tick_3 ?_
  refine aw_rV (As := [.int x]) (S := [.int 0, .ref (ad 16 0 0)]) (v := some (.int v)) (o2 := o1) h (mm_fit_of cbX7_tick (by decide) (by decide)) wq645 cvX7_tick wv7 rfl rfl rfl (Nat.le_of_ble_eq_true rfl) (by decide) (by decide) rfl dL_tick_4 ?_
  refine aw_i2l dL_tick_7 ?_
  refine aw_lst rfl dL_tick_8 ?_
  refine aw_goto (tgt := 15) (by decide) dL_tick_9 ?_
  refine aw_iconst (v := 0) (by decide) dL_tick_15 ?_
  exact aw_iret rfl (by decide) (by decide) dL_tick_16 ⟨rfl, by first | rfl | (simp; done)⟩
theorem lwx_tick_eA {ad : Nat → Nat → Nat → Nat} {o : wd_S} {x : Int32} (h : CT ad MX7_tick [.ref (ad 7 0 0), .int x] o (OT (oX eA o))) : CT ad ML_tick [.ref (ad 7 0 0), .int x, .ref (ad 16 0 0)] o (RT (some (.int 1)) o) := by
  refine CT.ofH (L := [some (.ref (ad 7 0 0)), some (.int x), some (.ref (ad 16 0 0)), none]) (by decide) rfl (by decide) (Nat.le_of_ble_eq_true rfl) rfl ?_
  refine aw_aload_n (x := ad 16 0 0) rfl dL_tick_0 ?_
  refine aw_iconst (v := 0) (by decide) dL_tick_1 ?_
  refine aw_aload_n (x := ad 7 0 0) rfl dL_tick_2 ?_
  refine aw_iload_n (x := x) rfl dL_tick_3 ?_
  refine aw_cVx (As := [.int x]) (S := [.int 0, .ref (ad 16 0 0)]) (E := eA) (o2 := o) h (mm_fit_of cbX7_tick (by decide) (by decide)) wq645 cvX7_tick wv7 rfl rfl rfl (Nat.le_of_ble_eq_true rfl) (by decide) (by decide) dL_tick_4 ?_
  refine ax_catch [] (0, 9, 12, 21) [] rfl (fun _ h => absurd h List.not_mem_nil) (by decide) (by decide) wq455 wq488 (fun q => ?_)
  refine aw_astore_n (L2 := [some (.ref (ad 7 0 0)), some (.int x), some (.ref (ad 16 0 0)), some (.ref q)]) (by decide) rfl rfl dL_tick_12 ?_
  refine aw_iconst (v := 1) (by decide) dL_tick_13 ?_
  exact aw_iret rfl (by decide) (by decide) dL_tick_14 ⟨rfl, rfl⟩
theorem lwv_setLimit {ad : Nat → Nat → Nat → Nat} {o o1 : wd_S} {v : Int32} {x : Int32} (h : CT ad MX7_setLimit [.ref (ad 7 0 0), .int x] o (OT (oI v o1))) : CT ad ML_setLimit [.ref (ad 7 0 0), .int x, .ref (ad 16 0 0)] o (RT (some (.int 0)) (wd_j o1 1 v.toInt64)) := by
  refine CT.ofH (L := [some (.ref (ad 7 0 0)), some (.int x), some (.ref (ad 16 0 0)), none]) (by decide) rfl (by decide) (Nat.le_of_ble_eq_true rfl) rfl ?_
  refine aw_aload_n (x := ad 16 0 0) rfl dL_setLimit_0 ?_
  refine aw_iconst (v := 0) (by decide) dL_setLimit_1 ?_
  refine aw_aload_n (x := ad 7 0 0) rfl dL_setLimit_2 ?_
  refine aw_iload_n (x := x) rfl dL_setLimit_3 ?_
  refine aw_rV (As := [.int x]) (S := [.int 0, .ref (ad 16 0 0)]) (v := some (.int v)) (o2 := o1) h (mm_fit_of cbX7_setLimit (by decide) (by decide)) wq681 cvX7_setLimit wv7 rfl rfl rfl (Nat.le_of_ble_eq_true rfl) (by decide) (by decide) rfl dL_setLimit_4 ?_
  refine aw_i2l dL_setLimit_7 ?_
  refine aw_lst rfl dL_setLimit_8 ?_
  refine aw_goto (tgt := 15) (by decide) dL_setLimit_9 ?_
  refine aw_iconst (v := 0) (by decide) dL_setLimit_15 ?_
  exact aw_iret rfl (by decide) (by decide) dL_setLimit_16 ⟨rfl, by first | rfl | (simp; done)⟩
theorem lwx_setLimit_eA {ad : Nat → Nat → Nat → Nat} {o : wd_S} {x : Int32} (h : CT ad MX7_setLimit [.ref (ad 7 0 0), .int x] o (OT (oX eA o))) : CT ad ML_setLimit [.ref (ad 7 0 0), .int x, .ref (ad 16 0 0)] o (RT (some (.int 1)) o) := by
  refine CT.ofH (L := [some (.ref (ad 7 0 0)), some (.int x), some (.ref (ad 16 0 0)), none]) (by decide) rfl (by decide) (Nat.le_of_ble_eq_true rfl) rfl ?_
  refine aw_aload_n (x := ad 16 0 0) rfl dL_setLimit_0 ?_
  refine aw_iconst (v := 0) (by decide) dL_setLimit_1 ?_
  refine aw_aload_n (x := ad 7 0 0) rfl dL_setLimit_2 ?_
  refine aw_iload_n (x := x) rfl dL_setLimit_3 ?_
  refine aw_cVx (As := [.int x]) (S := [.int 0, .ref (ad 16 0 0)]) (E := eA) (o2 := o) h (mm_fit_of cbX7_setLimit (by decide) (by decide)) wq681 cvX7_setLimit wv7 rfl rfl rfl (Nat.le_of_ble_eq_true rfl) (by decide) (by decide) dL_setLimit_4 ?_
  refine ax_catch [] (0, 9, 12, 21) [] rfl (fun _ h => absurd h List.not_mem_nil) (by decide) (by decide) wq455 wq488 (fun q => ?_)
  refine aw_astore_n (L2 := [some (.ref (ad 7 0 0)), some (.int x), some (.ref (ad 16 0 0)), some (.ref q)]) (by decide) rfl rfl dL_setLimit_12 ?_
  refine aw_iconst (v := 1) (by decide) dL_setLimit_13 ?_
  exact aw_iret rfl (by decide) (by decide) dL_setLimit_14 ⟨rfl, rfl⟩
theorem lwv_rings {ad : Nat → Nat → Nat → Nat} {o o1 : wd_S} {v : Int32} {x : Int32} (h : CT ad MX7_rings [.ref (ad 7 0 0), .int x] o (OT (oI v o1))) : CT ad ML_rings [.ref (ad 7 0 0), .int x, .ref (ad 16 0 0)] o (RT (some (.int 0)) (wd_j o1 1 v.toInt64)) := by
  refine CT.ofH (L := [some (.ref (ad 7 0 0)), some (.int x), some (.ref (ad 16 0 0)), none]) (by decide) rfl (by decide) (Nat.le_of_ble_eq_true rfl) rfl ?_
  refine aw_aload_n (x := ad 16 0 0) rfl dL_rings_0 ?_
  refine aw_iconst (v := 0) (by decide) dL_rings_1 ?_
  refine aw_aload_n (x := ad 7 0 0) rfl dL_rings_2 ?_
  refine aw_iload_n (x := x) rfl dL_rings_3 ?_
  refine aw_rV (As := [.int x]) (S := [.int 0, .ref (ad 16 0 0)]) (v := some (.int v)) (o2 := o1) h (mm_fit_of cbX7_rings (by decide) (by decide)) wq689 cvX7_rings wv7 rfl rfl rfl (Nat.le_of_ble_eq_true rfl) (by decide) (by decide) rfl dL_rings_4 ?_
  refine aw_i2l dL_rings_7 ?_
  refine aw_lst rfl dL_rings_8 ?_
  refine aw_goto (tgt := 15) (by decide) dL_rings_9 ?_
  refine aw_iconst (v := 0) (by decide) dL_rings_15 ?_
  exact aw_iret rfl (by decide) (by decide) dL_rings_16 ⟨rfl, by first | rfl | (simp; done)⟩
theorem lwx_rings_eI {ad : Nat → Nat → Nat → Nat} {o : wd_S} {x : Int32} (h : CT ad MX7_rings [.ref (ad 7 0 0), .int x] o (OT (oX eI o))) : CT ad ML_rings [.ref (ad 7 0 0), .int x, .ref (ad 16 0 0)] o (RT (some (.int 1)) o) := by
  refine CT.ofH (L := [some (.ref (ad 7 0 0)), some (.int x), some (.ref (ad 16 0 0)), none]) (by decide) rfl (by decide) (Nat.le_of_ble_eq_true rfl) rfl ?_
  refine aw_aload_n (x := ad 16 0 0) rfl dL_rings_0 ?_
  refine aw_iconst (v := 0) (by decide) dL_rings_1 ?_
  refine aw_aload_n (x := ad 7 0 0) rfl dL_rings_2 ?_
  refine aw_iload_n (x := x) rfl dL_rings_3 ?_
  refine aw_cVx (As := [.int x]) (S := [.int 0, .ref (ad 16 0 0)]) (E := eI) (o2 := o) h (mm_fit_of cbX7_rings (by decide) (by decide)) wq689 cvX7_rings wv7 rfl rfl rfl (Nat.le_of_ble_eq_true rfl) (by decide) (by decide) dL_rings_4 ?_
  refine ax_catch [] (0, 9, 12, 19) [] rfl (fun _ h => absurd h List.not_mem_nil) (by decide) (by decide) wq454 wq466 (fun q => ?_)
  refine aw_astore_n (L2 := [some (.ref (ad 7 0 0)), some (.int x), some (.ref (ad 16 0 0)), some (.ref q)]) (by decide) rfl rfl dL_rings_12 ?_
  refine aw_iconst (v := 1) (by decide) dL_rings_13 ?_
  exact aw_iret rfl (by decide) (by decide) dL_rings_14 ⟨rfl, rfl⟩
theorem lwv_wouldDial {ad : Nat → Nat → Nat → Nat} {o o1 : wd_S} {v : Int32} {x y : Int32} (h : CT ad MX7_wouldDial [.ref (ad 7 0 0), .int x, .int y] o (OT (oI v o1))) : CT ad ML_wouldDial [.ref (ad 7 0 0), .int x, .int y, .ref (ad 16 0 0)] o (RT (some (.int 0)) (wd_j o1 1 v.toInt64)) := by
  refine CT.ofH (L := [some (.ref (ad 7 0 0)), some (.int x), some (.int y), some (.ref (ad 16 0 0)), none]) (by decide) rfl (by decide) (Nat.le_of_ble_eq_true rfl) rfl ?_
  refine aw_aload_n (x := ad 16 0 0) rfl dL_wouldDial_0 ?_
  refine aw_iconst (v := 0) (by decide) dL_wouldDial_1 ?_
  refine aw_aload_n (x := ad 7 0 0) rfl dL_wouldDial_2 ?_
  refine aw_iload_n (x := x) rfl dL_wouldDial_3 ?_
  refine aw_iload_n (x := y) rfl dL_wouldDial_4 ?_
  refine aw_rV (As := [.int x, .int y]) (S := [.int 0, .ref (ad 16 0 0)]) (v := some (.int v)) (o2 := o1) h (mm_fit_of cbX7_wouldDial (by decide) (by decide)) wq696 cvX7_wouldDial wv7 rfl rfl rfl (Nat.le_of_ble_eq_true rfl) (by decide) (by decide) rfl dL_wouldDial_5 ?_
  refine aw_i2l dL_wouldDial_8 ?_
  refine aw_lst rfl dL_wouldDial_9 ?_
  refine aw_goto (tgt := 17) (by decide) dL_wouldDial_10 ?_
  refine aw_iconst (v := 0) (by decide) dL_wouldDial_17 ?_
  exact aw_iret rfl (by decide) (by decide) dL_wouldDial_18 ⟨rfl, by first | rfl | (simp; done)⟩
theorem lwx_wouldDial_eI {ad : Nat → Nat → Nat → Nat} {o : wd_S} {x y : Int32} (h : CT ad MX7_wouldDial [.ref (ad 7 0 0), .int x, .int y] o (OT (oX eI o))) : CT ad ML_wouldDial [.ref (ad 7 0 0), .int x, .int y, .ref (ad 16 0 0)] o (RT (some (.int 1)) o) := by
  refine CT.ofH (L := [some (.ref (ad 7 0 0)), some (.int x), some (.int y), some (.ref (ad 16 0 0)), none]) (by decide) rfl (by decide) (Nat.le_of_ble_eq_true rfl) rfl ?_
  refine aw_aload_n (x := ad 16 0 0) rfl dL_wouldDial_0 ?_
  refine aw_iconst (v := 0) (by decide) dL_wouldDial_1 ?_
  refine aw_aload_n (x := ad 7 0 0) rfl dL_wouldDial_2 ?_
  refine aw_iload_n (x := x) rfl dL_wouldDial_3 ?_
  refine aw_iload_n (x := y) rfl dL_wouldDial_4 ?_
  refine aw_cVx (As := [.int x, .int y]) (S := [.int 0, .ref (ad 16 0 0)]) (E := eI) (o2 := o) h (mm_fit_of cbX7_wouldDial (by decide) (by decide)) wq696 cvX7_wouldDial wv7 rfl rfl rfl (Nat.le_of_ble_eq_true rfl) (by decide) (by decide) dL_wouldDial_5 ?_
  refine ax_catch [] (0, 10, 13, 19) [] rfl (fun _ h => absurd h List.not_mem_nil) (by decide) (by decide) wq454 wq466 (fun q => ?_)
  refine aw_astore (L2 := [some (.ref (ad 7 0 0)), some (.int x), some (.int y), some (.ref (ad 16 0 0)), some (.ref q)]) (by decide) rfl rfl dL_wouldDial_13 ?_
  refine aw_iconst (v := 1) (by decide) dL_wouldDial_15 ?_
  exact aw_iret rfl (by decide) (by decide) dL_wouldDial_16 ⟨rfl, rfl⟩
theorem lwv_told {ad : Nat → Nat → Nat → Nat} {o o1 : wd_S} {v : Int32} {x : Int32} (h : CT ad MX7_told [.ref (ad 7 0 0), .int x] o (OT (oI v o1))) : CT ad ML_told [.ref (ad 7 0 0), .int x, .ref (ad 16 0 0)] o (RT (some (.int 0)) (wd_j o1 1 v.toInt64)) := by
  refine CT.ofH (L := [some (.ref (ad 7 0 0)), some (.int x), some (.ref (ad 16 0 0)), none]) (by decide) rfl (by decide) (Nat.le_of_ble_eq_true rfl) rfl ?_
  refine aw_aload_n (x := ad 16 0 0) rfl dL_told_0 ?_
  refine aw_iconst (v := 0) (by decide) dL_told_1 ?_
  refine aw_aload_n (x := ad 7 0 0) rfl dL_told_2 ?_
  refine aw_iload_n (x := x) rfl dL_told_3 ?_
  refine aw_rV (As := [.int x]) (S := [.int 0, .ref (ad 16 0 0)]) (v := some (.int v)) (o2 := o1) h (mm_fit_of cbX7_told (by decide) (by decide)) wq704 cvX7_told wv7 rfl rfl rfl (Nat.le_of_ble_eq_true rfl) (by decide) (by decide) rfl dL_told_4 ?_
  refine aw_i2l dL_told_7 ?_
  refine aw_lst rfl dL_told_8 ?_
  refine aw_goto (tgt := 15) (by decide) dL_told_9 ?_
  refine aw_iconst (v := 0) (by decide) dL_told_15 ?_
  exact aw_iret rfl (by decide) (by decide) dL_told_16 ⟨rfl, by first | rfl | (simp; done)⟩
theorem lwx_told_eA {ad : Nat → Nat → Nat → Nat} {o : wd_S} {x : Int32} (h : CT ad MX7_told [.ref (ad 7 0 0), .int x] o (OT (oX eA o))) : CT ad ML_told [.ref (ad 7 0 0), .int x, .ref (ad 16 0 0)] o (RT (some (.int 1)) o) := by
  refine CT.ofH (L := [some (.ref (ad 7 0 0)), some (.int x), some (.ref (ad 16 0 0)), none]) (by decide) rfl (by decide) (Nat.le_of_ble_eq_true rfl) rfl ?_
  refine aw_aload_n (x := ad 16 0 0) rfl dL_told_0 ?_
  refine aw_iconst (v := 0) (by decide) dL_told_1 ?_
  refine aw_aload_n (x := ad 7 0 0) rfl dL_told_2 ?_
  refine aw_iload_n (x := x) rfl dL_told_3 ?_
  refine aw_cVx (As := [.int x]) (S := [.int 0, .ref (ad 16 0 0)]) (E := eA) (o2 := o) h (mm_fit_of cbX7_told (by decide) (by decide)) wq704 cvX7_told wv7 rfl rfl rfl (Nat.le_of_ble_eq_true rfl) (by decide) (by decide) dL_told_4 ?_
  refine ax_catch [] (0, 9, 12, 21) [] rfl (fun _ h => absurd h List.not_mem_nil) (by decide) (by decide) wq455 wq488 (fun q => ?_)
  refine aw_astore_n (L2 := [some (.ref (ad 7 0 0)), some (.int x), some (.ref (ad 16 0 0)), some (.ref q)]) (by decide) rfl rfl dL_told_12 ?_
  refine aw_iconst (v := 1) (by decide) dL_told_13 ?_
  exact aw_iret rfl (by decide) (by decide) dL_told_14 ⟨rfl, rfl⟩
theorem lwv_codeLength {ad : Nat → Nat → Nat → Nat} {o o1 : wd_S} {v : Int32} {x : Int32} (h : CT ad MX7_codeLength [.ref (ad 7 0 0), .int x] o (OT (oI v o1))) : CT ad ML_codeLength [.ref (ad 7 0 0), .int x, .ref (ad 16 0 0)] o (RT (some (.int 0)) (wd_j o1 1 v.toInt64)) := by
  refine CT.ofH (L := [some (.ref (ad 7 0 0)), some (.int x), some (.ref (ad 16 0 0)), none]) (by decide) rfl (by decide) (Nat.le_of_ble_eq_true rfl) rfl ?_
  refine aw_aload_n (x := ad 16 0 0) rfl dL_codeLength_0 ?_
  refine aw_iconst (v := 0) (by decide) dL_codeLength_1 ?_
  refine aw_aload_n (x := ad 7 0 0) rfl dL_codeLength_2 ?_
  refine aw_iload_n (x := x) rfl dL_codeLength_3 ?_
  refine aw_rV (As := [.int x]) (S := [.int 0, .ref (ad 16 0 0)]) (v := some (.int v)) (o2 := o1) h (mm_fit_of cbX7_codeLength (by decide) (by decide)) wq711 cvX7_codeLength wv7 rfl rfl rfl (Nat.le_of_ble_eq_true rfl) (by decide) (by decide) rfl dL_codeLength_4 ?_
  refine aw_i2l dL_codeLength_7 ?_
  refine aw_lst rfl dL_codeLength_8 ?_
  refine aw_goto (tgt := 15) (by decide) dL_codeLength_9 ?_
  refine aw_iconst (v := 0) (by decide) dL_codeLength_15 ?_
  exact aw_iret rfl (by decide) (by decide) dL_codeLength_16 ⟨rfl, by first | rfl | (simp; done)⟩
theorem lwx_codeLength_eA {ad : Nat → Nat → Nat → Nat} {o : wd_S} {x : Int32} (h : CT ad MX7_codeLength [.ref (ad 7 0 0), .int x] o (OT (oX eA o))) : CT ad ML_codeLength [.ref (ad 7 0 0), .int x, .ref (ad 16 0 0)] o (RT (some (.int 1)) o) := by
  refine CT.ofH (L := [some (.ref (ad 7 0 0)), some (.int x), some (.ref (ad 16 0 0)), none]) (by decide) rfl (by decide) (Nat.le_of_ble_eq_true rfl) rfl ?_
  refine aw_aload_n (x := ad 16 0 0) rfl dL_codeLength_0 ?_
  refine aw_iconst (v := 0) (by decide) dL_codeLength_1 ?_
  refine aw_aload_n (x := ad 7 0 0) rfl dL_codeLength_2 ?_
  refine aw_iload_n (x := x) rfl dL_codeLength_3 ?_
  refine aw_cVx (As := [.int x]) (S := [.int 0, .ref (ad 16 0 0)]) (E := eA) (o2 := o) h (mm_fit_of cbX7_codeLength (by decide) (by decide)) wq711 cvX7_codeLength wv7 rfl rfl rfl (Nat.le_of_ble_eq_true rfl) (by decide) (by decide) dL_codeLength_4 ?_
  refine ax_catch [] (0, 9, 12, 21) [] rfl (fun _ h => absurd h List.not_mem_nil) (by decide) (by decide) wq455 wq488 (fun q => ?_)
  refine aw_astore_n (L2 := [some (.ref (ad 7 0 0)), some (.int x), some (.ref (ad 16 0 0)), some (.ref q)]) (by decide) rfl rfl dL_codeLength_12 ?_
  refine aw_iconst (v := 1) (by decide) dL_codeLength_13 ?_
  exact aw_iret rfl (by decide) (by decide) dL_codeLength_14 ⟨rfl, rfl⟩
theorem lwv_codeRing {ad : Nat → Nat → Nat → Nat} {o o1 : wd_S} {v : Int32} {x y : Int32} (h : CT ad MX7_codeRing [.ref (ad 7 0 0), .int x, .int y] o (OT (oI v o1))) : CT ad ML_codeRing [.ref (ad 7 0 0), .int x, .int y, .ref (ad 16 0 0)] o (RT (some (.int 0)) (wd_j o1 1 v.toInt64)) := by
  refine CT.ofH (L := [some (.ref (ad 7 0 0)), some (.int x), some (.int y), some (.ref (ad 16 0 0)), none]) (by decide) rfl (by decide) (Nat.le_of_ble_eq_true rfl) rfl ?_
  refine aw_aload_n (x := ad 16 0 0) rfl dL_codeRing_0 ?_
  refine aw_iconst (v := 0) (by decide) dL_codeRing_1 ?_
  refine aw_aload_n (x := ad 7 0 0) rfl dL_codeRing_2 ?_
  refine aw_iload_n (x := x) rfl dL_codeRing_3 ?_
  refine aw_iload_n (x := y) rfl dL_codeRing_4 ?_
  refine aw_rV (As := [.int x, .int y]) (S := [.int 0, .ref (ad 16 0 0)]) (v := some (.int v)) (o2 := o1) h (mm_fit_of cbX7_codeRing (by decide) (by decide)) wq720 cvX7_codeRing wv7 rfl rfl rfl (Nat.le_of_ble_eq_true rfl) (by decide) (by decide) rfl dL_codeRing_5 ?_
  refine aw_i2l dL_codeRing_8 ?_
  refine aw_lst rfl dL_codeRing_9 ?_
  refine aw_goto (tgt := 17) (by decide) dL_codeRing_10 ?_
  refine aw_iconst (v := 0) (by decide) dL_codeRing_17 ?_
  exact aw_iret rfl (by decide) (by decide) dL_codeRing_18 ⟨rfl, by first | rfl | (simp; done)⟩
theorem lwx_codeRing_eA {ad : Nat → Nat → Nat → Nat} {o : wd_S} {x y : Int32} (h : CT ad MX7_codeRing [.ref (ad 7 0 0), .int x, .int y] o (OT (oX eA o))) : CT ad ML_codeRing [.ref (ad 7 0 0), .int x, .int y, .ref (ad 16 0 0)] o (RT (some (.int 1)) o) := by
  refine CT.ofH (L := [some (.ref (ad 7 0 0)), some (.int x), some (.int y), some (.ref (ad 16 0 0)), none]) (by decide) rfl (by decide) (Nat.le_of_ble_eq_true rfl) rfl ?_
  refine aw_aload_n (x := ad 16 0 0) rfl dL_codeRing_0 ?_
  refine aw_iconst (v := 0) (by decide) dL_codeRing_1 ?_
  refine aw_aload_n (x := ad 7 0 0) rfl dL_codeRing_2 ?_
  refine aw_iload_n (x := x) rfl dL_codeRing_3 ?_
  refine aw_iload_n (x := y) rfl dL_codeRing_4 ?_
  refine aw_cVx (As := [.int x, .int y]) (S := [.int 0, .ref (ad 16 0 0)]) (E := eA) (o2 := o) h (mm_fit_of cbX7_codeRing (by decide) (by decide)) wq720 cvX7_codeRing wv7 rfl rfl rfl (Nat.le_of_ble_eq_true rfl) (by decide) (by decide) dL_codeRing_5 ?_
  refine ax_catch [] (0, 10, 13, 21) [] rfl (fun _ h => absurd h List.not_mem_nil) (by decide) (by decide) wq455 wq488 (fun q => ?_)
  refine aw_astore (L2 := [some (.ref (ad 7 0 0)), some (.int x), some (.int y), some (.ref (ad 16 0 0)), some (.ref q)]) (by decide) rfl rfl dL_codeRing_13 ?_
  refine aw_iconst (v := 1) (by decide) dL_codeRing_15 ?_
  exact aw_iret rfl (by decide) (by decide) dL_codeRing_16 ⟨rfl, rfl⟩
theorem lwv_codeCost {ad : Nat → Nat → Nat → Nat} {o o1 : wd_S} {v : Int32} {x : Int32} (h : CT ad MX7_codeCost [.ref (ad 7 0 0), .int x] o (OT (oI v o1))) : CT ad ML_codeCost [.ref (ad 7 0 0), .int x, .ref (ad 16 0 0)] o (RT (some (.int 0)) (wd_j o1 1 v.toInt64)) := by
  refine CT.ofH (L := [some (.ref (ad 7 0 0)), some (.int x), some (.ref (ad 16 0 0)), none]) (by decide) rfl (by decide) (Nat.le_of_ble_eq_true rfl) rfl ?_
  refine aw_aload_n (x := ad 16 0 0) rfl dL_codeCost_0 ?_
  refine aw_iconst (v := 0) (by decide) dL_codeCost_1 ?_
  refine aw_aload_n (x := ad 7 0 0) rfl dL_codeCost_2 ?_
  refine aw_iload_n (x := x) rfl dL_codeCost_3 ?_
  refine aw_rV (As := [.int x]) (S := [.int 0, .ref (ad 16 0 0)]) (v := some (.int v)) (o2 := o1) h (mm_fit_of cbX7_codeCost (by decide) (by decide)) wq729 cvX7_codeCost wv7 rfl rfl rfl (Nat.le_of_ble_eq_true rfl) (by decide) (by decide) rfl dL_codeCost_4 ?_
  refine aw_i2l dL_codeCost_7 ?_
  refine aw_lst rfl dL_codeCost_8 ?_
  refine aw_goto (tgt := 15) (by decide) dL_codeCost_9 ?_
  refine aw_iconst (v := 0) (by decide) dL_codeCost_15 ?_
  exact aw_iret rfl (by decide) (by decide) dL_codeCost_16 ⟨rfl, by first | rfl | (simp; done)⟩
theorem lwx_codeCost_eI {ad : Nat → Nat → Nat → Nat} {o : wd_S} {x : Int32} (h : CT ad MX7_codeCost [.ref (ad 7 0 0), .int x] o (OT (oX eI o))) : CT ad ML_codeCost [.ref (ad 7 0 0), .int x, .ref (ad 16 0 0)] o (RT (some (.int 1)) o) := by
  refine CT.ofH (L := [some (.ref (ad 7 0 0)), some (.int x), some (.ref (ad 16 0 0)), none]) (by decide) rfl (by decide) (Nat.le_of_ble_eq_true rfl) rfl ?_
  refine aw_aload_n (x := ad 16 0 0) rfl dL_codeCost_0 ?_
  refine aw_iconst (v := 0) (by decide) dL_codeCost_1 ?_
  refine aw_aload_n (x := ad 7 0 0) rfl dL_codeCost_2 ?_
  refine aw_iload_n (x := x) rfl dL_codeCost_3 ?_
  refine aw_cVx (As := [.int x]) (S := [.int 0, .ref (ad 16 0 0)]) (E := eI) (o2 := o) h (mm_fit_of cbX7_codeCost (by decide) (by decide)) wq729 cvX7_codeCost wv7 rfl rfl rfl (Nat.le_of_ble_eq_true rfl) (by decide) (by decide) dL_codeCost_4 ?_
  refine ax_catch [] (0, 9, 12, 19) [] rfl (fun _ h => absurd h List.not_mem_nil) (by decide) (by decide) wq454 wq466 (fun q => ?_)
  refine aw_astore_n (L2 := [some (.ref (ad 7 0 0)), some (.int x), some (.ref (ad 16 0 0)), some (.ref q)]) (by decide) rfl rfl dL_codeCost_12 ?_
  refine aw_iconst (v := 1) (by decide) dL_codeCost_13 ?_
  exact aw_iret rfl (by decide) (by decide) dL_codeCost_14 ⟨rfl, rfl⟩
theorem lwv_bestCodes {ad : Nat → Nat → Nat → Nat} {o o1 : wd_S} {v : Int32} {x : Int32} (h : CT ad MX7_bestCodes [.ref (ad 7 0 0), .int x] o (OT (oI v o1))) : CT ad ML_bestCodes [.ref (ad 7 0 0), .int x, .ref (ad 16 0 0)] o (RT (some (.int 0)) (wd_j o1 1 v.toInt64)) := by
  refine CT.ofH (L := [some (.ref (ad 7 0 0)), some (.int x), some (.ref (ad 16 0 0)), none]) (by decide) rfl (by decide) (Nat.le_of_ble_eq_true rfl) rfl ?_
  refine aw_aload_n (x := ad 16 0 0) rfl dL_bestCodes_0 ?_
  refine aw_iconst (v := 0) (by decide) dL_bestCodes_1 ?_
  refine aw_aload_n (x := ad 7 0 0) rfl dL_bestCodes_2 ?_
  refine aw_iload_n (x := x) rfl dL_bestCodes_3 ?_
  refine aw_rV (As := [.int x]) (S := [.int 0, .ref (ad 16 0 0)]) (v := some (.int v)) (o2 := o1) h (mm_fit_of cbX7_bestCodes (by decide) (by decide)) wq736 cvX7_bestCodes wv7 rfl rfl rfl (Nat.le_of_ble_eq_true rfl) (by decide) (by decide) rfl dL_bestCodes_4 ?_
  refine aw_i2l dL_bestCodes_7 ?_
  refine aw_lst rfl dL_bestCodes_8 ?_
  refine aw_goto (tgt := 15) (by decide) dL_bestCodes_9 ?_
  refine aw_iconst (v := 0) (by decide) dL_bestCodes_15 ?_
  exact aw_iret rfl (by decide) (by decide) dL_bestCodes_16 ⟨rfl, by first | rfl | (simp; done)⟩
theorem lwx_bestCodes_eI {ad : Nat → Nat → Nat → Nat} {o : wd_S} {x : Int32} (h : CT ad MX7_bestCodes [.ref (ad 7 0 0), .int x] o (OT (oX eI o))) : CT ad ML_bestCodes [.ref (ad 7 0 0), .int x, .ref (ad 16 0 0)] o (RT (some (.int 1)) o) := by
  refine CT.ofH (L := [some (.ref (ad 7 0 0)), some (.int x), some (.ref (ad 16 0 0)), none]) (by decide) rfl (by decide) (Nat.le_of_ble_eq_true rfl) rfl ?_
  refine aw_aload_n (x := ad 16 0 0) rfl dL_bestCodes_0 ?_
  refine aw_iconst (v := 0) (by decide) dL_bestCodes_1 ?_
  refine aw_aload_n (x := ad 7 0 0) rfl dL_bestCodes_2 ?_
  refine aw_iload_n (x := x) rfl dL_bestCodes_3 ?_
  refine aw_cVx (As := [.int x]) (S := [.int 0, .ref (ad 16 0 0)]) (E := eI) (o2 := o) h (mm_fit_of cbX7_bestCodes (by decide) (by decide)) wq736 cvX7_bestCodes wv7 rfl rfl rfl (Nat.le_of_ble_eq_true rfl) (by decide) (by decide) dL_bestCodes_4 ?_
  refine ax_catch [] (0, 9, 12, 19) [] rfl (fun _ h => absurd h List.not_mem_nil) (by decide) (by decide) wq454 wq466 (fun q => ?_)
  refine aw_astore_n (L2 := [some (.ref (ad 7 0 0)), some (.int x), some (.ref (ad 16 0 0)), some (.ref q)]) (by decide) rfl rfl dL_bestCodes_12 ?_
  refine aw_iconst (v := 1) (by decide) dL_bestCodes_13 ?_
  exact aw_iret rfl (by decide) (by decide) dL_bestCodes_14 ⟨rfl, rfl⟩
theorem lwv_assignCodes {ad : Nat → Nat → Nat → Nat} {o o1 : wd_S} {v : Int32} {x : Int32} (h : CT ad MX7_assignCodes [.ref (ad 7 0 0), .int x] o (OT (oI v o1))) : CT ad ML_assignCodes [.ref (ad 7 0 0), .int x, .ref (ad 16 0 0)] o (RT (some (.int 0)) (wd_j o1 1 v.toInt64)) := by
  refine CT.ofH (L := [some (.ref (ad 7 0 0)), some (.int x), some (.ref (ad 16 0 0)), none]) (by decide) rfl (by decide) (Nat.le_of_ble_eq_true rfl) rfl ?_
  refine aw_aload_n (x := ad 16 0 0) rfl dL_assignCodes_0 ?_
  refine aw_iconst (v := 0) (by decide) dL_assignCodes_1 ?_
  refine aw_aload_n (x := ad 7 0 0) rfl dL_assignCodes_2 ?_
  refine aw_iload_n (x := x) rfl dL_assignCodes_3 ?_
  refine aw_rV (As := [.int x]) (S := [.int 0, .ref (ad 16 0 0)]) (v := some (.int v)) (o2 := o1) h (mm_fit_of cbX7_assignCodes (by decide) (by decide)) wq760 cvX7_assignCodes wv7 rfl rfl rfl (Nat.le_of_ble_eq_true rfl) (by decide) (by decide) rfl dL_assignCodes_4 ?_
  refine aw_i2l dL_assignCodes_7 ?_
  refine aw_lst rfl dL_assignCodes_8 ?_
  refine aw_goto (tgt := 18) (by decide) dL_assignCodes_9 ?_
  refine aw_iconst (v := 0) (by decide) dL_assignCodes_18 ?_
  exact aw_iret rfl (by decide) (by decide) dL_assignCodes_19 ⟨rfl, by first | rfl | (simp; done)⟩
theorem lwx_assignCodes_eI {ad : Nat → Nat → Nat → Nat} {o : wd_S} {x : Int32} (h : CT ad MX7_assignCodes [.ref (ad 7 0 0), .int x] o (OT (oX eI o))) : CT ad ML_assignCodes [.ref (ad 7 0 0), .int x, .ref (ad 16 0 0)] o (RT (some (.int 1)) o) := by
  refine CT.ofH (L := [some (.ref (ad 7 0 0)), some (.int x), some (.ref (ad 16 0 0)), none]) (by decide) rfl (by decide) (Nat.le_of_ble_eq_true rfl) rfl ?_
  refine aw_aload_n (x := ad 16 0 0) rfl dL_assignCodes_0 ?_
  refine aw_iconst (v := 0) (by decide) dL_assignCodes_1 ?_
  refine aw_aload_n (x := ad 7 0 0) rfl dL_assignCodes_2 ?_
  refine aw_iload_n (x := x) rfl dL_assignCodes_3 ?_
  refine aw_cVx (As := [.int x]) (S := [.int 0, .ref (ad 16 0 0)]) (E := eI) (o2 := o) h (mm_fit_of cbX7_assignCodes (by decide) (by decide)) wq760 cvX7_assignCodes wv7 rfl rfl rfl (Nat.le_of_ble_eq_true rfl) (by decide) (by decide) dL_assignCodes_4 ?_
  refine ax_catch [] (0, 9, 12, 19) [(0, 9, 15, 13)] rfl (fun _ h => absurd h List.not_mem_nil) (by decide) (by decide) wq454 wq466 (fun q => ?_)
  refine aw_astore_n (L2 := [some (.ref (ad 7 0 0)), some (.int x), some (.ref (ad 16 0 0)), some (.ref q)]) (by decide) rfl rfl dL_assignCodes_12 ?_
  refine aw_iconst (v := 1) (by decide) dL_assignCodes_13 ?_
  exact aw_iret rfl (by decide) (by decide) dL_assignCodes_14 ⟨rfl, rfl⟩
theorem lwx_assignCodes_eS {ad : Nat → Nat → Nat → Nat} {o : wd_S} {x : Int32} (h : CT ad MX7_assignCodes [.ref (ad 7 0 0), .int x] o (OT (oX eS o))) : CT ad ML_assignCodes [.ref (ad 7 0 0), .int x, .ref (ad 16 0 0)] o (RT (some (.int 2)) o) := by
  refine CT.ofH (L := [some (.ref (ad 7 0 0)), some (.int x), some (.ref (ad 16 0 0)), none]) (by decide) rfl (by decide) (Nat.le_of_ble_eq_true rfl) rfl ?_
  refine aw_aload_n (x := ad 16 0 0) rfl dL_assignCodes_0 ?_
  refine aw_iconst (v := 0) (by decide) dL_assignCodes_1 ?_
  refine aw_aload_n (x := ad 7 0 0) rfl dL_assignCodes_2 ?_
  refine aw_iload_n (x := x) rfl dL_assignCodes_3 ?_
  refine aw_cVx (As := [.int x]) (S := [.int 0, .ref (ad 16 0 0)]) (E := eS) (o2 := o) h (mm_fit_of cbX7_assignCodes (by decide) (by decide)) wq760 cvX7_assignCodes wv7 rfl rfl rfl (Nat.le_of_ble_eq_true rfl) (by decide) (by decide) dL_assignCodes_4 ?_
  refine ax_catch [(0, 9, 12, 19)] (0, 9, 15, 13) [] rfl (List.forall_mem_cons.mpr ⟨⟨by decide, _, wq454, by decide⟩, fun _ h => absurd h List.not_mem_nil⟩) (by decide) (by decide) wq350 wq357 (fun q => ?_)
  refine aw_astore_n (L2 := [some (.ref (ad 7 0 0)), some (.int x), some (.ref (ad 16 0 0)), some (.ref q)]) (by decide) rfl rfl dL_assignCodes_15 ?_
  refine aw_iconst (v := 2) (by decide) dL_assignCodes_16 ?_
  exact aw_iret rfl (by decide) (by decide) dL_assignCodes_17 ⟨rfl, rfl⟩
theorem lwv_fault {ad : Nat → Nat → Nat → Nat} {o o1 : wd_S} {v : Int32} {x y z : Int32} (h : CT ad MX7_fault [.ref (ad 7 0 0), .int x, .int y, .int z] o (OT (oI v o1))) : CT ad ML_fault [.ref (ad 7 0 0), .int x, .int y, .int z, .ref (ad 16 0 0)] o (RT (some (.int 0)) (wd_j o1 1 v.toInt64)) := by
  refine CT.ofH (L := [some (.ref (ad 7 0 0)), some (.int x), some (.int y), some (.int z), some (.ref (ad 16 0 0)), none]) (by decide) rfl (by decide) (Nat.le_of_ble_eq_true rfl) rfl ?_
  refine aw_aload (x := ad 16 0 0) rfl dL_fault_0 ?_
  refine aw_iconst (v := 0) (by decide) dL_fault_2 ?_
  refine aw_aload_n (x := ad 7 0 0) rfl dL_fault_3 ?_
  refine aw_iload_n (x := x) rfl dL_fault_4 ?_
  refine aw_iload_n (x := y) rfl dL_fault_5 ?_
  refine aw_iload_n (x := z) rfl dL_fault_6 ?_
  refine aw_rV (As := [.int x, .int y, .int z]) (S := [.int 0, .ref (ad 16 0 0)]) (v := some (.int v)) (o2 := o1) h (mm_fit_of cbX7_fault (by decide) (by decide)) wq772 cvX7_fault wv7 rfl rfl rfl (Nat.le_of_ble_eq_true rfl) (by decide) (by decide) rfl dL_fault_7 ?_
  refine aw_i2l dL_fault_10 ?_
  refine aw_lst rfl dL_fault_11 ?_
  refine aw_goto (tgt := 23) (by decide) dL_fault_12 ?_
  refine aw_iconst (v := 0) (by decide) dL_fault_23 ?_
  exact aw_iret rfl (by decide) (by decide) dL_fault_24 ⟨rfl, by first | rfl | (simp; done)⟩
theorem lwx_fault_eI {ad : Nat → Nat → Nat → Nat} {o : wd_S} {x y z : Int32} (h : CT ad MX7_fault [.ref (ad 7 0 0), .int x, .int y, .int z] o (OT (oX eI o))) : CT ad ML_fault [.ref (ad 7 0 0), .int x, .int y, .int z, .ref (ad 16 0 0)] o (RT (some (.int 1)) o) := by
  refine CT.ofH (L := [some (.ref (ad 7 0 0)), some (.int x), some (.int y), some (.int z), some (.ref (ad 16 0 0)), none]) (by decide) rfl (by decide) (Nat.le_of_ble_eq_true rfl) rfl ?_
  refine aw_aload (x := ad 16 0 0) rfl dL_fault_0 ?_
  refine aw_iconst (v := 0) (by decide) dL_fault_2 ?_
  refine aw_aload_n (x := ad 7 0 0) rfl dL_fault_3 ?_
  refine aw_iload_n (x := x) rfl dL_fault_4 ?_
  refine aw_iload_n (x := y) rfl dL_fault_5 ?_
  refine aw_iload_n (x := z) rfl dL_fault_6 ?_
  refine aw_cVx (As := [.int x, .int y, .int z]) (S := [.int 0, .ref (ad 16 0 0)]) (E := eI) (o2 := o) h (mm_fit_of cbX7_fault (by decide) (by decide)) wq772 cvX7_fault wv7 rfl rfl rfl (Nat.le_of_ble_eq_true rfl) (by decide) (by decide) dL_fault_7 ?_
  refine ax_catch [] (0, 12, 15, 19) [(0, 12, 19, 13)] rfl (fun _ h => absurd h List.not_mem_nil) (by decide) (by decide) wq454 wq466 (fun q => ?_)
  refine aw_astore (L2 := [some (.ref (ad 7 0 0)), some (.int x), some (.int y), some (.int z), some (.ref (ad 16 0 0)), some (.ref q)]) (by decide) rfl rfl dL_fault_15 ?_
  refine aw_iconst (v := 1) (by decide) dL_fault_17 ?_
  exact aw_iret rfl (by decide) (by decide) dL_fault_18 ⟨rfl, rfl⟩
theorem lwx_fault_eS {ad : Nat → Nat → Nat → Nat} {o : wd_S} {x y z : Int32} (h : CT ad MX7_fault [.ref (ad 7 0 0), .int x, .int y, .int z] o (OT (oX eS o))) : CT ad ML_fault [.ref (ad 7 0 0), .int x, .int y, .int z, .ref (ad 16 0 0)] o (RT (some (.int 2)) o) := by
  refine CT.ofH (L := [some (.ref (ad 7 0 0)), some (.int x), some (.int y), some (.int z), some (.ref (ad 16 0 0)), none]) (by decide) rfl (by decide) (Nat.le_of_ble_eq_true rfl) rfl ?_
  refine aw_aload (x := ad 16 0 0) rfl dL_fault_0 ?_
  refine aw_iconst (v := 0) (by decide) dL_fault_2 ?_
  refine aw_aload_n (x := ad 7 0 0) rfl dL_fault_3 ?_
  refine aw_iload_n (x := x) rfl dL_fault_4 ?_
  refine aw_iload_n (x := y) rfl dL_fault_5 ?_
  refine aw_iload_n (x := z) rfl dL_fault_6 ?_
  refine aw_cVx (As := [.int x, .int y, .int z]) (S := [.int 0, .ref (ad 16 0 0)]) (E := eS) (o2 := o) h (mm_fit_of cbX7_fault (by decide) (by decide)) wq772 cvX7_fault wv7 rfl rfl rfl (Nat.le_of_ble_eq_true rfl) (by decide) (by decide) dL_fault_7 ?_
  refine ax_catch [(0, 12, 15, 19)] (0, 12, 19, 13) [] rfl (List.forall_mem_cons.mpr ⟨⟨by decide, _, wq454, by decide⟩, fun _ h => absurd h List.not_mem_nil⟩) (by decide) (by decide) wq350 wq357 (fun q => ?_)
  refine aw_astore (L2 := [some (.ref (ad 7 0 0)), some (.int x), some (.int y), some (.int z), some (.ref (ad 16 0 0)), some (.ref q)]) (by decide) rfl rfl dL_fault_19 ?_
  refine aw_iconst (v := 2) (by decide) dL_fault_21 ?_
  exact aw_iret rfl (by decide) (by decide) dL_fault_22 ⟨rfl, rfl⟩
theorem lwv_mend {ad : Nat → Nat → Nat → Nat} {o o1 : wd_S} {v : Int32} {x : Int32} (h : CT ad MX7_mend [.ref (ad 7 0 0), .int x] o (OT (oI v o1))) : CT ad ML_mend [.ref (ad 7 0 0), .int x, .ref (ad 16 0 0)] o (RT (some (.int 0)) (wd_j o1 1 v.toInt64)) := by
  refine CT.ofH (L := [some (.ref (ad 7 0 0)), some (.int x), some (.ref (ad 16 0 0)), none]) (by decide) rfl (by decide) (Nat.le_of_ble_eq_true rfl) rfl ?_
  refine aw_aload_n (x := ad 16 0 0) rfl dL_mend_0 ?_
  refine aw_iconst (v := 0) (by decide) dL_mend_1 ?_
  refine aw_aload_n (x := ad 7 0 0) rfl dL_mend_2 ?_
  refine aw_iload_n (x := x) rfl dL_mend_3 ?_
  refine aw_rV (As := [.int x]) (S := [.int 0, .ref (ad 16 0 0)]) (v := some (.int v)) (o2 := o1) h (mm_fit_of cbX7_mend (by decide) (by decide)) wq790 cvX7_mend wv7 rfl rfl rfl (Nat.le_of_ble_eq_true rfl) (by decide) (by decide) rfl dL_mend_4 ?_
  refine aw_i2l dL_mend_7 ?_
  refine aw_lst rfl dL_mend_8 ?_
  refine aw_goto (tgt := 18) (by decide) dL_mend_9 ?_
  refine aw_iconst (v := 0) (by decide) dL_mend_18 ?_
  exact aw_iret rfl (by decide) (by decide) dL_mend_19 ⟨rfl, by first | rfl | (simp; done)⟩
theorem lwx_mend_eI {ad : Nat → Nat → Nat → Nat} {o : wd_S} {x : Int32} (h : CT ad MX7_mend [.ref (ad 7 0 0), .int x] o (OT (oX eI o))) : CT ad ML_mend [.ref (ad 7 0 0), .int x, .ref (ad 16 0 0)] o (RT (some (.int 1)) o) := by
  refine CT.ofH (L := [some (.ref (ad 7 0 0)), some (.int x), some (.ref (ad 16 0 0)), none]) (by decide) rfl (by decide) (Nat.le_of_ble_eq_true rfl) rfl ?_
  refine aw_aload_n (x := ad 16 0 0) rfl dL_mend_0 ?_
  refine aw_iconst (v := 0) (by decide) dL_mend_1 ?_
  refine aw_aload_n (x := ad 7 0 0) rfl dL_mend_2 ?_
  refine aw_iload_n (x := x) rfl dL_mend_3 ?_
  refine aw_cVx (As := [.int x]) (S := [.int 0, .ref (ad 16 0 0)]) (E := eI) (o2 := o) h (mm_fit_of cbX7_mend (by decide) (by decide)) wq790 cvX7_mend wv7 rfl rfl rfl (Nat.le_of_ble_eq_true rfl) (by decide) (by decide) dL_mend_4 ?_
  refine ax_catch [] (0, 9, 12, 19) [(0, 9, 15, 13)] rfl (fun _ h => absurd h List.not_mem_nil) (by decide) (by decide) wq454 wq466 (fun q => ?_)
  refine aw_astore_n (L2 := [some (.ref (ad 7 0 0)), some (.int x), some (.ref (ad 16 0 0)), some (.ref q)]) (by decide) rfl rfl dL_mend_12 ?_
  refine aw_iconst (v := 1) (by decide) dL_mend_13 ?_
  exact aw_iret rfl (by decide) (by decide) dL_mend_14 ⟨rfl, rfl⟩
theorem lwx_mend_eS {ad : Nat → Nat → Nat → Nat} {o : wd_S} {x : Int32} (h : CT ad MX7_mend [.ref (ad 7 0 0), .int x] o (OT (oX eS o))) : CT ad ML_mend [.ref (ad 7 0 0), .int x, .ref (ad 16 0 0)] o (RT (some (.int 2)) o) := by
  refine CT.ofH (L := [some (.ref (ad 7 0 0)), some (.int x), some (.ref (ad 16 0 0)), none]) (by decide) rfl (by decide) (Nat.le_of_ble_eq_true rfl) rfl ?_
  refine aw_aload_n (x := ad 16 0 0) rfl dL_mend_0 ?_
  refine aw_iconst (v := 0) (by decide) dL_mend_1 ?_
  refine aw_aload_n (x := ad 7 0 0) rfl dL_mend_2 ?_
  refine aw_iload_n (x := x) rfl dL_mend_3 ?_
  refine aw_cVx (As := [.int x]) (S := [.int 0, .ref (ad 16 0 0)]) (E := eS) (o2 := o) h (mm_fit_of cbX7_mend (by decide) (by decide)) wq790 cvX7_mend wv7 rfl rfl rfl (Nat.le_of_ble_eq_true rfl) (by decide) (by decide) dL_mend_4 ?_
  refine ax_catch [(0, 9, 12, 19)] (0, 9, 15, 13) [] rfl (List.forall_mem_cons.mpr ⟨⟨by decide, _, wq454, by decide⟩, fun _ h => absurd h List.not_mem_nil⟩) (by decide) (by decide) wq350 wq357 (fun q => ?_)
  refine aw_astore_n (L2 := [some (.ref (ad 7 0 0)), some (.int x), some (.ref (ad 16 0 0)), some (.ref q)]) (by decide) rfl rfl dL_mend_15 ?_
  refine aw_iconst (v := 2) (by decide) dL_mend_16 ?_
  exact aw_iret rfl (by decide) (by decide) dL_mend_17 ⟨rfl, rfl⟩
theorem lwv_isCut {ad : Nat → Nat → Nat → Nat} {o o1 : wd_S} {v : Int32} {x : Int32} (h : CT ad MX7_isCut [.ref (ad 7 0 0), .int x] o (OT (oI v o1))) (hv : v = 0 ∨ v = 1) : CT ad ML_isCut [.ref (ad 7 0 0), .int x, .ref (ad 16 0 0)] o (RT (some (.int 0)) (wd_j o1 1 v.toInt64)) := by
  refine CT.ofH (L := [some (.ref (ad 7 0 0)), some (.int x), some (.ref (ad 16 0 0)), none]) (by decide) rfl (by decide) (Nat.le_of_ble_eq_true rfl) rfl ?_
  refine aw_aload_n (x := ad 16 0 0) rfl dL_isCut_0 ?_
  refine aw_iconst (v := 0) (by decide) dL_isCut_1 ?_
  refine aw_aload_n (x := ad 7 0 0) rfl dL_isCut_2 ?_
  refine aw_iload_n (x := x) rfl dL_isCut_3 ?_
  refine aw_rV (As := [.int x]) (S := [.int 0, .ref (ad 16 0 0)]) (v := some (.int v)) (o2 := o1) h (mm_fit_of cbX7_isCut (by decide) (by decide)) wq807 cvX7_isCut wv7 rfl rfl rfl (Nat.le_of_ble_eq_true rfl) (by decide) (by decide) rfl dL_isCut_4 ?_
  rcases hv with rfl | rfl
  · refine aw_if_eq (tgt := 14) (by decide) dL_isCut_7 (fun _ => ?_) (fun z => absurd rfl z)
    refine aw_lconst (v := 0) (by decide) dL_isCut_14 ?_
    refine aw_lst rfl dL_isCut_15 ?_
    refine aw_goto (tgt := 22) (by decide) dL_isCut_16 ?_
    refine aw_iconst (v := 0) (by decide) dL_isCut_22 ?_
    exact aw_iret rfl (by decide) (by decide) dL_isCut_23 ⟨rfl, by first | rfl | (simp; done)⟩
  · refine aw_if_eq (tgt := 14) (by decide) dL_isCut_7 (fun z => absurd z (by decide)) (fun _ => ?_)
    refine aw_lconst (v := 1) (by decide) dL_isCut_10 ?_
    refine aw_goto (tgt := 15) (by decide) dL_isCut_11 ?_
    refine aw_lst rfl dL_isCut_15 ?_
    refine aw_goto (tgt := 22) (by decide) dL_isCut_16 ?_
    refine aw_iconst (v := 0) (by decide) dL_isCut_22 ?_
    exact aw_iret rfl (by decide) (by decide) dL_isCut_23 ⟨rfl, by first | rfl | (simp; done)⟩
theorem lwx_isCut_eI {ad : Nat → Nat → Nat → Nat} {o : wd_S} {x : Int32} (h : CT ad MX7_isCut [.ref (ad 7 0 0), .int x] o (OT (oX eI o))) : CT ad ML_isCut [.ref (ad 7 0 0), .int x, .ref (ad 16 0 0)] o (RT (some (.int 1)) o) := by
  refine CT.ofH (L := [some (.ref (ad 7 0 0)), some (.int x), some (.ref (ad 16 0 0)), none]) (by decide) rfl (by decide) (Nat.le_of_ble_eq_true rfl) rfl ?_
  refine aw_aload_n (x := ad 16 0 0) rfl dL_isCut_0 ?_
  refine aw_iconst (v := 0) (by decide) dL_isCut_1 ?_
  refine aw_aload_n (x := ad 7 0 0) rfl dL_isCut_2 ?_
  refine aw_iload_n (x := x) rfl dL_isCut_3 ?_
  refine aw_cVx (As := [.int x]) (S := [.int 0, .ref (ad 16 0 0)]) (E := eI) (o2 := o) h (mm_fit_of cbX7_isCut (by decide) (by decide)) wq807 cvX7_isCut wv7 rfl rfl rfl (Nat.le_of_ble_eq_true rfl) (by decide) (by decide) dL_isCut_4 ?_
  refine ax_catch [] (0, 16, 19, 19) [] rfl (fun _ h => absurd h List.not_mem_nil) (by decide) (by decide) wq454 wq466 (fun q => ?_)
  refine aw_astore_n (L2 := [some (.ref (ad 7 0 0)), some (.int x), some (.ref (ad 16 0 0)), some (.ref q)]) (by decide) rfl rfl dL_isCut_19 ?_
  refine aw_iconst (v := 1) (by decide) dL_isCut_20 ?_
  exact aw_iret rfl (by decide) (by decide) dL_isCut_21 ⟨rfl, rfl⟩
theorem lwv_setRisk {ad : Nat → Nat → Nat → Nat} {o o1 : wd_S} {v : Int32} {x y z : Int32} (h : CT ad MX7_setRisk [.ref (ad 7 0 0), .int x, .int y, .int z] o (OT (oI v o1))) : CT ad ML_setRisk [.ref (ad 7 0 0), .int x, .int y, .int z, .ref (ad 16 0 0)] o (RT (some (.int 0)) (wd_j o1 1 v.toInt64)) := by
  refine CT.ofH (L := [some (.ref (ad 7 0 0)), some (.int x), some (.int y), some (.int z), some (.ref (ad 16 0 0)), none]) (by decide) rfl (by decide) (Nat.le_of_ble_eq_true rfl) rfl ?_
  refine aw_aload (x := ad 16 0 0) rfl dL_setRisk_0 ?_
  refine aw_iconst (v := 0) (by decide) dL_setRisk_2 ?_
  refine aw_aload_n (x := ad 7 0 0) rfl dL_setRisk_3 ?_
  refine aw_iload_n (x := x) rfl dL_setRisk_4 ?_
  refine aw_iload_n (x := y) rfl dL_setRisk_5 ?_
  refine aw_iload_n (x := z) rfl dL_setRisk_6 ?_
  refine aw_rV (As := [.int x, .int y, .int z]) (S := [.int 0, .ref (ad 16 0 0)]) (v := some (.int v)) (o2 := o1) h (mm_fit_of cbX7_setRisk (by decide) (by decide)) wq815 cvX7_setRisk wv7 rfl rfl rfl (Nat.le_of_ble_eq_true rfl) (by decide) (by decide) rfl dL_setRisk_7 ?_
  refine aw_i2l dL_setRisk_10 ?_
  refine aw_lst rfl dL_setRisk_11 ?_
  refine aw_goto (tgt := 23) (by decide) dL_setRisk_12 ?_
  refine aw_iconst (v := 0) (by decide) dL_setRisk_23 ?_
  exact aw_iret rfl (by decide) (by decide) dL_setRisk_24 ⟨rfl, by first | rfl | (simp; done)⟩
theorem lwx_setRisk_eI {ad : Nat → Nat → Nat → Nat} {o : wd_S} {x y z : Int32} (h : CT ad MX7_setRisk [.ref (ad 7 0 0), .int x, .int y, .int z] o (OT (oX eI o))) : CT ad ML_setRisk [.ref (ad 7 0 0), .int x, .int y, .int z, .ref (ad 16 0 0)] o (RT (some (.int 1)) o) := by
  refine CT.ofH (L := [some (.ref (ad 7 0 0)), some (.int x), some (.int y), some (.int z), some (.ref (ad 16 0 0)), none]) (by decide) rfl (by decide) (Nat.le_of_ble_eq_true rfl) rfl ?_
  refine aw_aload (x := ad 16 0 0) rfl dL_setRisk_0 ?_
  refine aw_iconst (v := 0) (by decide) dL_setRisk_2 ?_
  refine aw_aload_n (x := ad 7 0 0) rfl dL_setRisk_3 ?_
  refine aw_iload_n (x := x) rfl dL_setRisk_4 ?_
  refine aw_iload_n (x := y) rfl dL_setRisk_5 ?_
  refine aw_iload_n (x := z) rfl dL_setRisk_6 ?_
  refine aw_cVx (As := [.int x, .int y, .int z]) (S := [.int 0, .ref (ad 16 0 0)]) (E := eI) (o2 := o) h (mm_fit_of cbX7_setRisk (by decide) (by decide)) wq815 cvX7_setRisk wv7 rfl rfl rfl (Nat.le_of_ble_eq_true rfl) (by decide) (by decide) dL_setRisk_7 ?_
  refine ax_catch [] (0, 12, 15, 19) [(0, 12, 19, 21)] rfl (fun _ h => absurd h List.not_mem_nil) (by decide) (by decide) wq454 wq466 (fun q => ?_)
  refine aw_astore (L2 := [some (.ref (ad 7 0 0)), some (.int x), some (.int y), some (.int z), some (.ref (ad 16 0 0)), some (.ref q)]) (by decide) rfl rfl dL_setRisk_15 ?_
  refine aw_iconst (v := 1) (by decide) dL_setRisk_17 ?_
  exact aw_iret rfl (by decide) (by decide) dL_setRisk_18 ⟨rfl, rfl⟩
theorem lwx_setRisk_eA {ad : Nat → Nat → Nat → Nat} {o : wd_S} {x y z : Int32} (h : CT ad MX7_setRisk [.ref (ad 7 0 0), .int x, .int y, .int z] o (OT (oX eA o))) : CT ad ML_setRisk [.ref (ad 7 0 0), .int x, .int y, .int z, .ref (ad 16 0 0)] o (RT (some (.int 2)) o) := by
  refine CT.ofH (L := [some (.ref (ad 7 0 0)), some (.int x), some (.int y), some (.int z), some (.ref (ad 16 0 0)), none]) (by decide) rfl (by decide) (Nat.le_of_ble_eq_true rfl) rfl ?_
  refine aw_aload (x := ad 16 0 0) rfl dL_setRisk_0 ?_
  refine aw_iconst (v := 0) (by decide) dL_setRisk_2 ?_
  refine aw_aload_n (x := ad 7 0 0) rfl dL_setRisk_3 ?_
  refine aw_iload_n (x := x) rfl dL_setRisk_4 ?_
  refine aw_iload_n (x := y) rfl dL_setRisk_5 ?_
  refine aw_iload_n (x := z) rfl dL_setRisk_6 ?_
  refine aw_cVx (As := [.int x, .int y, .int z]) (S := [.int 0, .ref (ad 16 0 0)]) (E := eA) (o2 := o) h (mm_fit_of cbX7_setRisk (by decide) (by decide)) wq815 cvX7_setRisk wv7 rfl rfl rfl (Nat.le_of_ble_eq_true rfl) (by decide) (by decide) dL_setRisk_7 ?_
  refine ax_catch [(0, 12, 15, 19)] (0, 12, 19, 21) [] rfl (List.forall_mem_cons.mpr ⟨⟨by decide, _, wq454, by decide⟩, fun _ h => absurd h List.not_mem_nil⟩) (by decide) (by decide) wq455 wq488 (fun q => ?_)
  refine aw_astore (L2 := [some (.ref (ad 7 0 0)), some (.int x), some (.int y), some (.int z), some (.ref (ad 16 0 0)), some (.ref q)]) (by decide) rfl rfl dL_setRisk_19 ?_
  refine aw_iconst (v := 2) (by decide) dL_setRisk_21 ?_
  exact aw_iret rfl (by decide) (by decide) dL_setRisk_22 ⟨rfl, rfl⟩
theorem lwv_test {ad : Nat → Nat → Nat → Nat} {o o1 : wd_S} {v : Int32} {x y : Int32} (h : CT ad MX7_test [.ref (ad 7 0 0), .int x, .int y] o (OT (oI v o1))) (hv : v = 0 ∨ v = 1) : CT ad ML_test [.ref (ad 7 0 0), .int x, .int y, .ref (ad 16 0 0)] o (RT (some (.int 0)) (wd_j o1 1 v.toInt64)) := by
  refine CT.ofH (L := [some (.ref (ad 7 0 0)), some (.int x), some (.int y), some (.ref (ad 16 0 0)), none]) (by decide) rfl (by decide) (Nat.le_of_ble_eq_true rfl) rfl ?_
  refine aw_aload_n (x := ad 16 0 0) rfl dL_test_0 ?_
  refine aw_iconst (v := 0) (by decide) dL_test_1 ?_
  refine aw_aload_n (x := ad 7 0 0) rfl dL_test_2 ?_
  refine aw_iload_n (x := x) rfl dL_test_3 ?_
  refine aw_iload_n (x := y) rfl dL_test_4 ?_
  refine aw_rV (As := [.int x, .int y]) (S := [.int 0, .ref (ad 16 0 0)]) (v := some (.int v)) (o2 := o1) h (mm_fit_of cbX7_test (by decide) (by decide)) wq823 cvX7_test wv7 rfl rfl rfl (Nat.le_of_ble_eq_true rfl) (by decide) (by decide) rfl dL_test_5 ?_
  rcases hv with rfl | rfl
  · refine aw_if_eq (tgt := 15) (by decide) dL_test_8 (fun _ => ?_) (fun z => absurd rfl z)
    refine aw_lconst (v := 0) (by decide) dL_test_15 ?_
    refine aw_lst rfl dL_test_16 ?_
    refine aw_goto (tgt := 32) (by decide) dL_test_17 ?_
    refine aw_iconst (v := 0) (by decide) dL_test_32 ?_
    exact aw_iret rfl (by decide) (by decide) dL_test_33 ⟨rfl, by first | rfl | (simp; done)⟩
  · refine aw_if_eq (tgt := 15) (by decide) dL_test_8 (fun z => absurd z (by decide)) (fun _ => ?_)
    refine aw_lconst (v := 1) (by decide) dL_test_11 ?_
    refine aw_goto (tgt := 16) (by decide) dL_test_12 ?_
    refine aw_lst rfl dL_test_16 ?_
    refine aw_goto (tgt := 32) (by decide) dL_test_17 ?_
    refine aw_iconst (v := 0) (by decide) dL_test_32 ?_
    exact aw_iret rfl (by decide) (by decide) dL_test_33 ⟨rfl, by first | rfl | (simp; done)⟩
theorem lwx_test_eI {ad : Nat → Nat → Nat → Nat} {o : wd_S} {x y : Int32} (h : CT ad MX7_test [.ref (ad 7 0 0), .int x, .int y] o (OT (oX eI o))) : CT ad ML_test [.ref (ad 7 0 0), .int x, .int y, .ref (ad 16 0 0)] o (RT (some (.int 1)) o) := by
  refine CT.ofH (L := [some (.ref (ad 7 0 0)), some (.int x), some (.int y), some (.ref (ad 16 0 0)), none]) (by decide) rfl (by decide) (Nat.le_of_ble_eq_true rfl) rfl ?_
  refine aw_aload_n (x := ad 16 0 0) rfl dL_test_0 ?_
  refine aw_iconst (v := 0) (by decide) dL_test_1 ?_
  refine aw_aload_n (x := ad 7 0 0) rfl dL_test_2 ?_
  refine aw_iload_n (x := x) rfl dL_test_3 ?_
  refine aw_iload_n (x := y) rfl dL_test_4 ?_
  refine aw_cVx (As := [.int x, .int y]) (S := [.int 0, .ref (ad 16 0 0)]) (E := eI) (o2 := o) h (mm_fit_of cbX7_test (by decide) (by decide)) wq823 cvX7_test wv7 rfl rfl rfl (Nat.le_of_ble_eq_true rfl) (by decide) (by decide) dL_test_5 ?_
  refine ax_catch [] (0, 17, 20, 19) [(0, 17, 24, 21), (0, 17, 28, 13)] rfl (fun _ h => absurd h List.not_mem_nil) (by decide) (by decide) wq454 wq466 (fun q => ?_)
  refine aw_astore (L2 := [some (.ref (ad 7 0 0)), some (.int x), some (.int y), some (.ref (ad 16 0 0)), some (.ref q)]) (by decide) rfl rfl dL_test_20 ?_
  refine aw_iconst (v := 1) (by decide) dL_test_22 ?_
  exact aw_iret rfl (by decide) (by decide) dL_test_23 ⟨rfl, rfl⟩
theorem lwx_test_eA {ad : Nat → Nat → Nat → Nat} {o : wd_S} {x y : Int32} (h : CT ad MX7_test [.ref (ad 7 0 0), .int x, .int y] o (OT (oX eA o))) : CT ad ML_test [.ref (ad 7 0 0), .int x, .int y, .ref (ad 16 0 0)] o (RT (some (.int 2)) o) := by
  refine CT.ofH (L := [some (.ref (ad 7 0 0)), some (.int x), some (.int y), some (.ref (ad 16 0 0)), none]) (by decide) rfl (by decide) (Nat.le_of_ble_eq_true rfl) rfl ?_
  refine aw_aload_n (x := ad 16 0 0) rfl dL_test_0 ?_
  refine aw_iconst (v := 0) (by decide) dL_test_1 ?_
  refine aw_aload_n (x := ad 7 0 0) rfl dL_test_2 ?_
  refine aw_iload_n (x := x) rfl dL_test_3 ?_
  refine aw_iload_n (x := y) rfl dL_test_4 ?_
  refine aw_cVx (As := [.int x, .int y]) (S := [.int 0, .ref (ad 16 0 0)]) (E := eA) (o2 := o) h (mm_fit_of cbX7_test (by decide) (by decide)) wq823 cvX7_test wv7 rfl rfl rfl (Nat.le_of_ble_eq_true rfl) (by decide) (by decide) dL_test_5 ?_
  refine ax_catch [(0, 17, 20, 19)] (0, 17, 24, 21) [(0, 17, 28, 13)] rfl (List.forall_mem_cons.mpr ⟨⟨by decide, _, wq454, by decide⟩, fun _ h => absurd h List.not_mem_nil⟩) (by decide) (by decide) wq455 wq488 (fun q => ?_)
  refine aw_astore (L2 := [some (.ref (ad 7 0 0)), some (.int x), some (.int y), some (.ref (ad 16 0 0)), some (.ref q)]) (by decide) rfl rfl dL_test_24 ?_
  refine aw_iconst (v := 2) (by decide) dL_test_26 ?_
  exact aw_iret rfl (by decide) (by decide) dL_test_27 ⟨rfl, rfl⟩
theorem lwx_test_eS {ad : Nat → Nat → Nat → Nat} {o : wd_S} {x y : Int32} (h : CT ad MX7_test [.ref (ad 7 0 0), .int x, .int y] o (OT (oX eS o))) : CT ad ML_test [.ref (ad 7 0 0), .int x, .int y, .ref (ad 16 0 0)] o (RT (some (.int 3)) o) := by
  refine CT.ofH (L := [some (.ref (ad 7 0 0)), some (.int x), some (.int y), some (.ref (ad 16 0 0)), none]) (by decide) rfl (by decide) (Nat.le_of_ble_eq_true rfl) rfl ?_
  refine aw_aload_n (x := ad 16 0 0) rfl dL_test_0 ?_
  refine aw_iconst (v := 0) (by decide) dL_test_1 ?_
  refine aw_aload_n (x := ad 7 0 0) rfl dL_test_2 ?_
  refine aw_iload_n (x := x) rfl dL_test_3 ?_
  refine aw_iload_n (x := y) rfl dL_test_4 ?_
  refine aw_cVx (As := [.int x, .int y]) (S := [.int 0, .ref (ad 16 0 0)]) (E := eS) (o2 := o) h (mm_fit_of cbX7_test (by decide) (by decide)) wq823 cvX7_test wv7 rfl rfl rfl (Nat.le_of_ble_eq_true rfl) (by decide) (by decide) dL_test_5 ?_
  refine ax_catch [(0, 17, 20, 19), (0, 17, 24, 21)] (0, 17, 28, 13) [] rfl (List.forall_mem_cons.mpr ⟨⟨by decide, _, wq454, by decide⟩, List.forall_mem_cons.mpr ⟨⟨by decide, _, wq455, by decide⟩, fun _ h => absurd h List.not_mem_nil⟩⟩) (by decide) (by decide) wq350 wq357 (fun q => ?_)
  refine aw_astore (L2 := [some (.ref (ad 7 0 0)), some (.int x), some (.int y), some (.ref (ad 16 0 0)), some (.ref q)]) (by decide) rfl rfl dL_test_28 ?_
  refine aw_iconst (v := 3) (by decide) dL_test_30 ?_
  exact aw_iret rfl (by decide) (by decide) dL_test_31 ⟨rfl, rfl⟩
theorem lwv_testCost {ad : Nat → Nat → Nat → Nat} {o o1 : wd_S} {v : Int32} {x y z : Int32} (h : CT ad MX7_testCost [.ref (ad 7 0 0), .int x, .int y, .int z] o (OT (oI v o1))) : CT ad ML_testCost [.ref (ad 7 0 0), .int x, .int y, .int z, .ref (ad 16 0 0)] o (RT (some (.int 0)) (wd_j o1 1 v.toInt64)) := by
  refine CT.ofH (L := [some (.ref (ad 7 0 0)), some (.int x), some (.int y), some (.int z), some (.ref (ad 16 0 0)), none]) (by decide) rfl (by decide) (Nat.le_of_ble_eq_true rfl) rfl ?_
  refine aw_aload (x := ad 16 0 0) rfl dL_testCost_0 ?_
  refine aw_iconst (v := 0) (by decide) dL_testCost_2 ?_
  refine aw_aload_n (x := ad 7 0 0) rfl dL_testCost_3 ?_
  refine aw_iload_n (x := x) rfl dL_testCost_4 ?_
  refine aw_iload_n (x := y) rfl dL_testCost_5 ?_
  refine aw_iload_n (x := z) rfl dL_testCost_6 ?_
  refine aw_rV (As := [.int x, .int y, .int z]) (S := [.int 0, .ref (ad 16 0 0)]) (v := some (.int v)) (o2 := o1) h (mm_fit_of cbX7_testCost (by decide) (by decide)) wq831 cvX7_testCost wv7 rfl rfl rfl (Nat.le_of_ble_eq_true rfl) (by decide) (by decide) rfl dL_testCost_7 ?_
  refine aw_i2l dL_testCost_10 ?_
  refine aw_lst rfl dL_testCost_11 ?_
  refine aw_goto (tgt := 23) (by decide) dL_testCost_12 ?_
  refine aw_iconst (v := 0) (by decide) dL_testCost_23 ?_
  exact aw_iret rfl (by decide) (by decide) dL_testCost_24 ⟨rfl, by first | rfl | (simp; done)⟩
theorem lwx_testCost_eI {ad : Nat → Nat → Nat → Nat} {o : wd_S} {x y z : Int32} (h : CT ad MX7_testCost [.ref (ad 7 0 0), .int x, .int y, .int z] o (OT (oX eI o))) : CT ad ML_testCost [.ref (ad 7 0 0), .int x, .int y, .int z, .ref (ad 16 0 0)] o (RT (some (.int 1)) o) := by
  refine CT.ofH (L := [some (.ref (ad 7 0 0)), some (.int x), some (.int y), some (.int z), some (.ref (ad 16 0 0)), none]) (by decide) rfl (by decide) (Nat.le_of_ble_eq_true rfl) rfl ?_
  refine aw_aload (x := ad 16 0 0) rfl dL_testCost_0 ?_
  refine aw_iconst (v := 0) (by decide) dL_testCost_2 ?_
  refine aw_aload_n (x := ad 7 0 0) rfl dL_testCost_3 ?_
  refine aw_iload_n (x := x) rfl dL_testCost_4 ?_
  refine aw_iload_n (x := y) rfl dL_testCost_5 ?_
  refine aw_iload_n (x := z) rfl dL_testCost_6 ?_
  refine aw_cVx (As := [.int x, .int y, .int z]) (S := [.int 0, .ref (ad 16 0 0)]) (E := eI) (o2 := o) h (mm_fit_of cbX7_testCost (by decide) (by decide)) wq831 cvX7_testCost wv7 rfl rfl rfl (Nat.le_of_ble_eq_true rfl) (by decide) (by decide) dL_testCost_7 ?_
  refine ax_catch [] (0, 12, 15, 19) [(0, 12, 19, 21)] rfl (fun _ h => absurd h List.not_mem_nil) (by decide) (by decide) wq454 wq466 (fun q => ?_)
  refine aw_astore (L2 := [some (.ref (ad 7 0 0)), some (.int x), some (.int y), some (.int z), some (.ref (ad 16 0 0)), some (.ref q)]) (by decide) rfl rfl dL_testCost_15 ?_
  refine aw_iconst (v := 1) (by decide) dL_testCost_17 ?_
  exact aw_iret rfl (by decide) (by decide) dL_testCost_18 ⟨rfl, rfl⟩
theorem lwx_testCost_eA {ad : Nat → Nat → Nat → Nat} {o : wd_S} {x y z : Int32} (h : CT ad MX7_testCost [.ref (ad 7 0 0), .int x, .int y, .int z] o (OT (oX eA o))) : CT ad ML_testCost [.ref (ad 7 0 0), .int x, .int y, .int z, .ref (ad 16 0 0)] o (RT (some (.int 2)) o) := by
  refine CT.ofH (L := [some (.ref (ad 7 0 0)), some (.int x), some (.int y), some (.int z), some (.ref (ad 16 0 0)), none]) (by decide) rfl (by decide) (Nat.le_of_ble_eq_true rfl) rfl ?_
  refine aw_aload (x := ad 16 0 0) rfl dL_testCost_0 ?_
  refine aw_iconst (v := 0) (by decide) dL_testCost_2 ?_
  refine aw_aload_n (x := ad 7 0 0) rfl dL_testCost_3 ?_
  refine aw_iload_n (x := x) rfl dL_testCost_4 ?_
  refine aw_iload_n (x := y) rfl dL_testCost_5 ?_
  refine aw_iload_n (x := z) rfl dL_testCost_6 ?_
  refine aw_cVx (As := [.int x, .int y, .int z]) (S := [.int 0, .ref (ad 16 0 0)]) (E := eA) (o2 := o) h (mm_fit_of cbX7_testCost (by decide) (by decide)) wq831 cvX7_testCost wv7 rfl rfl rfl (Nat.le_of_ble_eq_true rfl) (by decide) (by decide) dL_testCost_7 ?_
  refine ax_catch [(0, 12, 15, 19)] (0, 12, 19, 21) [] rfl (List.forall_mem_cons.mpr ⟨⟨by decide, _, wq454, by decide⟩, fun _ h => absurd h List.not_mem_nil⟩) (by decide) (by decide) wq455 wq488 (fun q => ?_)
  refine aw_astore (L2 := [some (.ref (ad 7 0 0)), some (.int x), some (.int y), some (.int z), some (.ref (ad 16 0 0)), some (.ref q)]) (by decide) rfl rfl dL_testCost_19 ?_
  refine aw_iconst (v := 2) (by decide) dL_testCost_21 ?_
  exact aw_iret rfl (by decide) (by decide) dL_testCost_22 ⟨rfl, rfl⟩
theorem lwv_bestTest {ad : Nat → Nat → Nat → Nat} {o o1 : wd_S} {v : Int32} {x y z : Int32} (h : CT ad MX7_bestTest [.ref (ad 7 0 0), .int x, .int y, .int z] o (OT (oI v o1))) : CT ad ML_bestTest [.ref (ad 7 0 0), .int x, .int y, .int z, .ref (ad 16 0 0)] o (RT (some (.int 0)) (wd_j o1 1 v.toInt64)) := by
  refine CT.ofH (L := [some (.ref (ad 7 0 0)), some (.int x), some (.int y), some (.int z), some (.ref (ad 16 0 0)), none]) (by decide) rfl (by decide) (Nat.le_of_ble_eq_true rfl) rfl ?_
  refine aw_aload (x := ad 16 0 0) rfl dL_bestTest_0 ?_
  refine aw_iconst (v := 0) (by decide) dL_bestTest_2 ?_
  refine aw_aload_n (x := ad 7 0 0) rfl dL_bestTest_3 ?_
  refine aw_iload_n (x := x) rfl dL_bestTest_4 ?_
  refine aw_iload_n (x := y) rfl dL_bestTest_5 ?_
  refine aw_iload_n (x := z) rfl dL_bestTest_6 ?_
  refine aw_rV (As := [.int x, .int y, .int z]) (S := [.int 0, .ref (ad 16 0 0)]) (v := some (.int v)) (o2 := o1) h (mm_fit_of cbX7_bestTest (by decide) (by decide)) wq851 cvX7_bestTest wv7 rfl rfl rfl (Nat.le_of_ble_eq_true rfl) (by decide) (by decide) rfl dL_bestTest_7 ?_
  refine aw_i2l dL_bestTest_10 ?_
  refine aw_lst rfl dL_bestTest_11 ?_
  refine aw_goto (tgt := 23) (by decide) dL_bestTest_12 ?_
  refine aw_iconst (v := 0) (by decide) dL_bestTest_23 ?_
  exact aw_iret rfl (by decide) (by decide) dL_bestTest_24 ⟨rfl, by first | rfl | (simp; done)⟩
theorem lwx_bestTest_eI {ad : Nat → Nat → Nat → Nat} {o : wd_S} {x y z : Int32} (h : CT ad MX7_bestTest [.ref (ad 7 0 0), .int x, .int y, .int z] o (OT (oX eI o))) : CT ad ML_bestTest [.ref (ad 7 0 0), .int x, .int y, .int z, .ref (ad 16 0 0)] o (RT (some (.int 1)) o) := by
  refine CT.ofH (L := [some (.ref (ad 7 0 0)), some (.int x), some (.int y), some (.int z), some (.ref (ad 16 0 0)), none]) (by decide) rfl (by decide) (Nat.le_of_ble_eq_true rfl) rfl ?_
  refine aw_aload (x := ad 16 0 0) rfl dL_bestTest_0 ?_
  refine aw_iconst (v := 0) (by decide) dL_bestTest_2 ?_
  refine aw_aload_n (x := ad 7 0 0) rfl dL_bestTest_3 ?_
  refine aw_iload_n (x := x) rfl dL_bestTest_4 ?_
  refine aw_iload_n (x := y) rfl dL_bestTest_5 ?_
  refine aw_iload_n (x := z) rfl dL_bestTest_6 ?_
  refine aw_cVx (As := [.int x, .int y, .int z]) (S := [.int 0, .ref (ad 16 0 0)]) (E := eI) (o2 := o) h (mm_fit_of cbX7_bestTest (by decide) (by decide)) wq851 cvX7_bestTest wv7 rfl rfl rfl (Nat.le_of_ble_eq_true rfl) (by decide) (by decide) dL_bestTest_7 ?_
  refine ax_catch [] (0, 12, 15, 19) [(0, 12, 19, 21)] rfl (fun _ h => absurd h List.not_mem_nil) (by decide) (by decide) wq454 wq466 (fun q => ?_)
  refine aw_astore (L2 := [some (.ref (ad 7 0 0)), some (.int x), some (.int y), some (.int z), some (.ref (ad 16 0 0)), some (.ref q)]) (by decide) rfl rfl dL_bestTest_15 ?_
  refine aw_iconst (v := 1) (by decide) dL_bestTest_17 ?_
  exact aw_iret rfl (by decide) (by decide) dL_bestTest_18 ⟨rfl, rfl⟩
theorem lwx_bestTest_eA {ad : Nat → Nat → Nat → Nat} {o : wd_S} {x y z : Int32} (h : CT ad MX7_bestTest [.ref (ad 7 0 0), .int x, .int y, .int z] o (OT (oX eA o))) : CT ad ML_bestTest [.ref (ad 7 0 0), .int x, .int y, .int z, .ref (ad 16 0 0)] o (RT (some (.int 2)) o) := by
  refine CT.ofH (L := [some (.ref (ad 7 0 0)), some (.int x), some (.int y), some (.int z), some (.ref (ad 16 0 0)), none]) (by decide) rfl (by decide) (Nat.le_of_ble_eq_true rfl) rfl ?_
  refine aw_aload (x := ad 16 0 0) rfl dL_bestTest_0 ?_
  refine aw_iconst (v := 0) (by decide) dL_bestTest_2 ?_
  refine aw_aload_n (x := ad 7 0 0) rfl dL_bestTest_3 ?_
  refine aw_iload_n (x := x) rfl dL_bestTest_4 ?_
  refine aw_iload_n (x := y) rfl dL_bestTest_5 ?_
  refine aw_iload_n (x := z) rfl dL_bestTest_6 ?_
  refine aw_cVx (As := [.int x, .int y, .int z]) (S := [.int 0, .ref (ad 16 0 0)]) (E := eA) (o2 := o) h (mm_fit_of cbX7_bestTest (by decide) (by decide)) wq851 cvX7_bestTest wv7 rfl rfl rfl (Nat.le_of_ble_eq_true rfl) (by decide) (by decide) dL_bestTest_7 ?_
  refine ax_catch [(0, 12, 15, 19)] (0, 12, 19, 21) [] rfl (List.forall_mem_cons.mpr ⟨⟨by decide, _, wq454, by decide⟩, fun _ h => absurd h List.not_mem_nil⟩) (by decide) (by decide) wq455 wq488 (fun q => ?_)
  refine aw_astore (L2 := [some (.ref (ad 7 0 0)), some (.int x), some (.int y), some (.int z), some (.ref (ad 16 0 0)), some (.ref q)]) (by decide) rfl rfl dL_bestTest_19 ?_
  refine aw_iconst (v := 2) (by decide) dL_bestTest_21 ?_
  exact aw_iret rfl (by decide) (by decide) dL_bestTest_22 ⟨rfl, rfl⟩
theorem lwv_testsNeeded {ad : Nat → Nat → Nat → Nat} {o o1 : wd_S} {v : Int32} {x : Int32} (h : CT ad MX7_testsNeeded [.ref (ad 7 0 0), .int x] o (OT (oI v o1))) : CT ad ML_testsNeeded [.ref (ad 7 0 0), .int x, .ref (ad 16 0 0)] o (RT (some (.int 0)) (wd_j o1 1 v.toInt64)) := by
  refine CT.ofH (L := [some (.ref (ad 7 0 0)), some (.int x), some (.ref (ad 16 0 0)), none]) (by decide) rfl (by decide) (Nat.le_of_ble_eq_true rfl) rfl ?_
  refine aw_aload_n (x := ad 16 0 0) rfl dL_testsNeeded_0 ?_
  refine aw_iconst (v := 0) (by decide) dL_testsNeeded_1 ?_
  refine aw_aload_n (x := ad 7 0 0) rfl dL_testsNeeded_2 ?_
  refine aw_iload_n (x := x) rfl dL_testsNeeded_3 ?_
  refine aw_rV (As := [.int x]) (S := [.int 0, .ref (ad 16 0 0)]) (v := some (.int v)) (o2 := o1) h (mm_fit_of cbX7_testsNeeded (by decide) (by decide)) wq858 cvX7_testsNeeded wv7 rfl rfl rfl (Nat.le_of_ble_eq_true rfl) (by decide) (by decide) rfl dL_testsNeeded_4 ?_
  refine aw_i2l dL_testsNeeded_7 ?_
  refine aw_lst rfl dL_testsNeeded_8 ?_
  refine aw_goto (tgt := 18) (by decide) dL_testsNeeded_9 ?_
  refine aw_iconst (v := 0) (by decide) dL_testsNeeded_18 ?_
  exact aw_iret rfl (by decide) (by decide) dL_testsNeeded_19 ⟨rfl, by first | rfl | (simp; done)⟩
theorem lwx_testsNeeded_eI {ad : Nat → Nat → Nat → Nat} {o : wd_S} {x : Int32} (h : CT ad MX7_testsNeeded [.ref (ad 7 0 0), .int x] o (OT (oX eI o))) : CT ad ML_testsNeeded [.ref (ad 7 0 0), .int x, .ref (ad 16 0 0)] o (RT (some (.int 1)) o) := by
  refine CT.ofH (L := [some (.ref (ad 7 0 0)), some (.int x), some (.ref (ad 16 0 0)), none]) (by decide) rfl (by decide) (Nat.le_of_ble_eq_true rfl) rfl ?_
  refine aw_aload_n (x := ad 16 0 0) rfl dL_testsNeeded_0 ?_
  refine aw_iconst (v := 0) (by decide) dL_testsNeeded_1 ?_
  refine aw_aload_n (x := ad 7 0 0) rfl dL_testsNeeded_2 ?_
  refine aw_iload_n (x := x) rfl dL_testsNeeded_3 ?_
  refine aw_cVx (As := [.int x]) (S := [.int 0, .ref (ad 16 0 0)]) (E := eI) (o2 := o) h (mm_fit_of cbX7_testsNeeded (by decide) (by decide)) wq858 cvX7_testsNeeded wv7 rfl rfl rfl (Nat.le_of_ble_eq_true rfl) (by decide) (by decide) dL_testsNeeded_4 ?_
  refine ax_catch [] (0, 9, 12, 19) [(0, 9, 15, 13)] rfl (fun _ h => absurd h List.not_mem_nil) (by decide) (by decide) wq454 wq466 (fun q => ?_)
  refine aw_astore_n (L2 := [some (.ref (ad 7 0 0)), some (.int x), some (.ref (ad 16 0 0)), some (.ref q)]) (by decide) rfl rfl dL_testsNeeded_12 ?_
  refine aw_iconst (v := 1) (by decide) dL_testsNeeded_13 ?_
  exact aw_iret rfl (by decide) (by decide) dL_testsNeeded_14 ⟨rfl, rfl⟩
theorem lwx_testsNeeded_eS {ad : Nat → Nat → Nat → Nat} {o : wd_S} {x : Int32} (h : CT ad MX7_testsNeeded [.ref (ad 7 0 0), .int x] o (OT (oX eS o))) : CT ad ML_testsNeeded [.ref (ad 7 0 0), .int x, .ref (ad 16 0 0)] o (RT (some (.int 2)) o) := by
  refine CT.ofH (L := [some (.ref (ad 7 0 0)), some (.int x), some (.ref (ad 16 0 0)), none]) (by decide) rfl (by decide) (Nat.le_of_ble_eq_true rfl) rfl ?_
  refine aw_aload_n (x := ad 16 0 0) rfl dL_testsNeeded_0 ?_
  refine aw_iconst (v := 0) (by decide) dL_testsNeeded_1 ?_
  refine aw_aload_n (x := ad 7 0 0) rfl dL_testsNeeded_2 ?_
  refine aw_iload_n (x := x) rfl dL_testsNeeded_3 ?_
  refine aw_cVx (As := [.int x]) (S := [.int 0, .ref (ad 16 0 0)]) (E := eS) (o2 := o) h (mm_fit_of cbX7_testsNeeded (by decide) (by decide)) wq858 cvX7_testsNeeded wv7 rfl rfl rfl (Nat.le_of_ble_eq_true rfl) (by decide) (by decide) dL_testsNeeded_4 ?_
  refine ax_catch [(0, 9, 12, 19)] (0, 9, 15, 13) [] rfl (List.forall_mem_cons.mpr ⟨⟨by decide, _, wq454, by decide⟩, fun _ h => absurd h List.not_mem_nil⟩) (by decide) (by decide) wq350 wq357 (fun q => ?_)
  refine aw_astore_n (L2 := [some (.ref (ad 7 0 0)), some (.int x), some (.ref (ad 16 0 0)), some (.ref q)]) (by decide) rfl rfl dL_testsNeeded_15 ?_
  refine aw_iconst (v := 2) (by decide) dL_testsNeeded_16 ?_
  exact aw_iret rfl (by decide) (by decide) dL_testsNeeded_17 ⟨rfl, rfl⟩
theorem lwv_undo {ad : Nat → Nat → Nat → Nat} {o o1 : wd_S} {v : Int32} (h : CT ad MX7_undo [.ref (ad 7 0 0)] o (OT (oI v o1))) : CT ad ML_undo [.ref (ad 7 0 0), .ref (ad 16 0 0)] o (RT (some (.int 0)) (wd_j o1 1 v.toInt64)) := by
  refine CT.ofH (L := [some (.ref (ad 7 0 0)), some (.ref (ad 16 0 0)), none]) (by decide) rfl (by decide) (Nat.le_of_ble_eq_true rfl) rfl ?_
  refine aw_aload_n (x := ad 16 0 0) rfl dL_undo_0 ?_
  refine aw_iconst (v := 0) (by decide) dL_undo_1 ?_
  refine aw_aload_n (x := ad 7 0 0) rfl dL_undo_2 ?_
  refine aw_rV (As := []) (S := [.int 0, .ref (ad 16 0 0)]) (v := some (.int v)) (o2 := o1) h (mm_fit_of cbX7_undo (by decide) (by decide)) wq869 cvX7_undo wv7 rfl rfl rfl (Nat.le_of_ble_eq_true rfl) (by decide) (by decide) rfl dL_undo_3 ?_
  refine aw_i2l dL_undo_6 ?_
  refine aw_lst rfl dL_undo_7 ?_
  refine aw_goto (tgt := 14) (by decide) dL_undo_8 ?_
  refine aw_iconst (v := 0) (by decide) dL_undo_14 ?_
  exact aw_iret rfl (by decide) (by decide) dL_undo_15 ⟨rfl, by first | rfl | (simp; done)⟩
theorem lwx_undo_eS {ad : Nat → Nat → Nat → Nat} {o : wd_S} (h : CT ad MX7_undo [.ref (ad 7 0 0)] o (OT (oX eS o))) : CT ad ML_undo [.ref (ad 7 0 0), .ref (ad 16 0 0)] o (RT (some (.int 1)) o) := by
  refine CT.ofH (L := [some (.ref (ad 7 0 0)), some (.ref (ad 16 0 0)), none]) (by decide) rfl (by decide) (Nat.le_of_ble_eq_true rfl) rfl ?_
  refine aw_aload_n (x := ad 16 0 0) rfl dL_undo_0 ?_
  refine aw_iconst (v := 0) (by decide) dL_undo_1 ?_
  refine aw_aload_n (x := ad 7 0 0) rfl dL_undo_2 ?_
  refine aw_cVx (As := []) (S := [.int 0, .ref (ad 16 0 0)]) (E := eS) (o2 := o) h (mm_fit_of cbX7_undo (by decide) (by decide)) wq869 cvX7_undo wv7 rfl rfl rfl (Nat.le_of_ble_eq_true rfl) (by decide) (by decide) dL_undo_3 ?_
  refine ax_catch [] (0, 8, 11, 13) [] rfl (fun _ h => absurd h List.not_mem_nil) (by decide) (by decide) wq350 wq357 (fun q => ?_)
  refine aw_astore_n (L2 := [some (.ref (ad 7 0 0)), some (.ref (ad 16 0 0)), some (.ref q)]) (by decide) rfl rfl dL_undo_11 ?_
  refine aw_iconst (v := 1) (by decide) dL_undo_12 ?_
  exact aw_iret rfl (by decide) (by decide) dL_undo_13 ⟨rfl, rfl⟩
