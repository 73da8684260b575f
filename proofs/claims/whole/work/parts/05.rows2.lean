section MMr2
variable {M : mm_M} {pc : Nat} {L : List (Option Value)} {S : List Value} {h : mm_H} {cc cs : Nat} {Post : mm_Q}
theorem mw_ishr {x y : Int32} (d : decode (mm_mc M) pc = .ok (.ishr, 1)) (k : MW M (pc + 1) L (.int (x >>> (y &&& 31)) :: S) h cc cs Post) : MW M pc L (.int y :: .int x :: S) h cc cs Post := by
  intro l p e s m args below meth c D A H locs ls C R Lh
  exact lv_ishr C.1 C.2.1 d (k l p e s m args below meth c D A H locs ls C R Lh)
theorem mw_idiv {x y : Int32} (hne : ¬ y = 0) (d : decode (mm_mc M) pc = .ok (.idiv, 1)) (k : MW M (pc + 1) L (.int (x / y) :: S) h cc cs Post) : MW M pc L (.int y :: .int x :: S) h cc cs Post := by
  intro l p e s m args below meth c D A H locs ls C R Lh
  exact lv_idiv C.1 C.2.1 d hne (k l p e s m args below meth c D A H locs ls C R Lh)
theorem mw_irem {x y : Int32} (hne : ¬ y = 0) (d : decode (mm_mc M) pc = .ok (.irem, 1)) (k : MW M (pc + 1) L (.int (x - x / y * y) :: S) h cc cs Post) : MW M pc L (.int y :: .int x :: S) h cc cs Post := by
  intro l p e s m args below meth c D A H locs ls C R Lh
  exact lv_irem C.1 C.2.1 d hne (k l p e s m args below meth c D A H locs ls C R Lh)
theorem mw_lcmp {x y : Int64} (d : decode (mm_mc M) pc = .ok (.lcmp, 1)) (k : MW M (pc + 1) L (.int (lg_cmp x y) :: S) h cc cs Post) : MW M pc L (.long y :: .long x :: S) h cc cs Post := by
  intro l p e s m args below meth c D A H locs ls C R Lh
  exact W.lcmp C.1 C.2.1 d (k l p e s m args below meth c D A H locs ls C R Lh)
theorem mw_tableOut {dflt lo hi : Int} {offs : Array Int} {len : Nat} {x : Int32} {tgt : Nat} (hx : x.toInt < lo ∨ hi < x.toInt) (ht : (pc : Int) + dflt = (tgt : Int)) (d : decode (mm_mc M) pc = .ok (.tableswitch dflt lo hi offs, len)) (k : MW M (tgt) L (S) h cc cs Post) : MW M pc L (.int x :: S) h cc cs Post := by
  intro l p e s m args below meth c D A H locs ls C R Lh
  exact lv_tableOut C.1 C.2.1 d hx ht (k l p e s m args below meth c D A H locs ls C R Lh)
theorem mw_tableIn {dflt lo hi : Int} {offs : Array Int} {len : Nat} {x : Int32} {off : Int} {tgt : Nat} (h1 : ¬ x.toInt < lo) (h2 : ¬ hi < x.toInt) (ho : offs[(x.toInt - lo).toNat]? = some off) (ht : (pc : Int) + off = (tgt : Int)) (d : decode (mm_mc M) pc = .ok (.tableswitch dflt lo hi offs, len)) (k : MW M (tgt) L (S) h cc cs Post) : MW M pc L (.int x :: S) h cc cs Post := by
  intro l p e s m args below meth c D A H locs ls C R Lh
  exact lv_tableIn C.1 C.2.1 d h1 h2 ho ht (k l p e s m args below meth c D A H locs ls C R Lh)
theorem mw_if_eq {x : Int32} {off : Int} {tgt : Nat} (d : decode (mm_mc M) pc = .ok (.ifCond .eq off, 3)) (ht : (pc : Int) + off = (tgt : Int)) (kt : x = 0 → MW M tgt L S h cc cs Post) (kf : ¬ (x = 0) → MW M (pc + 3) L S h cc cs Post) : MW M pc L (.int x :: S) h cc cs Post := by
  intro l p e s m args below meth c D A H locs ls C R Lh
  exact lv_if_eq C.1 C.2.1 d ht (fun z => kt z l p e s m args below meth c D A H locs ls C R Lh) (fun z => kf z l p e s m args below meth c D A H locs ls C R Lh)
theorem mw_icmp_eq {x y : Int32} {off : Int} {tgt : Nat} (d : decode (mm_mc M) pc = .ok (.if_icmp .eq off, 3)) (ht : (pc : Int) + off = (tgt : Int)) (kt : x = y → MW M tgt L S h cc cs Post) (kf : ¬ (x = y) → MW M (pc + 3) L S h cc cs Post) : MW M pc L (.int y :: .int x :: S) h cc cs Post := by
  intro l p e s m args below meth c D A H locs ls C R Lh
  exact lv_icmp_eq C.1 C.2.1 d ht (fun z => kt z l p e s m args below meth c D A H locs ls C R Lh) (fun z => kf z l p e s m args below meth c D A H locs ls C R Lh)
theorem mw_if_ne {x : Int32} {off : Int} {tgt : Nat} (d : decode (mm_mc M) pc = .ok (.ifCond .ne off, 3)) (ht : (pc : Int) + off = (tgt : Int)) (kt : x ≠ 0 → MW M tgt L S h cc cs Post) (kf : x = 0 → MW M (pc + 3) L S h cc cs Post) : MW M pc L (.int x :: S) h cc cs Post := by
  intro l p e s m args below meth c D A H locs ls C R Lh
  exact lv_if_ne C.1 C.2.1 d ht (fun z => kt z l p e s m args below meth c D A H locs ls C R Lh) (fun z => kf z l p e s m args below meth c D A H locs ls C R Lh)
theorem mw_icmp_ne {x y : Int32} {off : Int} {tgt : Nat} (d : decode (mm_mc M) pc = .ok (.if_icmp .ne off, 3)) (ht : (pc : Int) + off = (tgt : Int)) (kt : x ≠ y → MW M tgt L S h cc cs Post) (kf : x = y → MW M (pc + 3) L S h cc cs Post) : MW M pc L (.int y :: .int x :: S) h cc cs Post := by
  intro l p e s m args below meth c D A H locs ls C R Lh
  exact lv_icmp_ne C.1 C.2.1 d ht (fun z => kt z l p e s m args below meth c D A H locs ls C R Lh) (fun z => kf z l p e s m args below meth c D A H locs ls C R Lh)
theorem mw_if_lt {x : Int32} {off : Int} {tgt : Nat} (d : decode (mm_mc M) pc = .ok (.ifCond .lt off, 3)) (ht : (pc : Int) + off = (tgt : Int)) (kt : x < 0 → MW M tgt L S h cc cs Post) (kf : ¬ (x < 0) → MW M (pc + 3) L S h cc cs Post) : MW M pc L (.int x :: S) h cc cs Post := by
  intro l p e s m args below meth c D A H locs ls C R Lh
  exact lv_if_lt C.1 C.2.1 d ht (fun z => kt z l p e s m args below meth c D A H locs ls C R Lh) (fun z => kf z l p e s m args below meth c D A H locs ls C R Lh)
theorem mw_icmp_lt {x y : Int32} {off : Int} {tgt : Nat} (d : decode (mm_mc M) pc = .ok (.if_icmp .lt off, 3)) (ht : (pc : Int) + off = (tgt : Int)) (kt : x < y → MW M tgt L S h cc cs Post) (kf : ¬ (x < y) → MW M (pc + 3) L S h cc cs Post) : MW M pc L (.int y :: .int x :: S) h cc cs Post := by
  intro l p e s m args below meth c D A H locs ls C R Lh
  exact lv_icmp_lt C.1 C.2.1 d ht (fun z => kt z l p e s m args below meth c D A H locs ls C R Lh) (fun z => kf z l p e s m args below meth c D A H locs ls C R Lh)
theorem mw_if_ge {x : Int32} {off : Int} {tgt : Nat} (d : decode (mm_mc M) pc = .ok (.ifCond .ge off, 3)) (ht : (pc : Int) + off = (tgt : Int)) (kt : x ≥ 0 → MW M tgt L S h cc cs Post) (kf : ¬ (x ≥ 0) → MW M (pc + 3) L S h cc cs Post) : MW M pc L (.int x :: S) h cc cs Post := by
  intro l p e s m args below meth c D A H locs ls C R Lh
  exact lv_if_ge C.1 C.2.1 d ht (fun z => kt z l p e s m args below meth c D A H locs ls C R Lh) (fun z => kf z l p e s m args below meth c D A H locs ls C R Lh)
theorem mw_icmp_ge {x y : Int32} {off : Int} {tgt : Nat} (d : decode (mm_mc M) pc = .ok (.if_icmp .ge off, 3)) (ht : (pc : Int) + off = (tgt : Int)) (kt : x ≥ y → MW M tgt L S h cc cs Post) (kf : ¬ (x ≥ y) → MW M (pc + 3) L S h cc cs Post) : MW M pc L (.int y :: .int x :: S) h cc cs Post := by
  intro l p e s m args below meth c D A H locs ls C R Lh
  exact lv_icmp_ge C.1 C.2.1 d ht (fun z => kt z l p e s m args below meth c D A H locs ls C R Lh) (fun z => kf z l p e s m args below meth c D A H locs ls C R Lh)
theorem mw_if_gt {x : Int32} {off : Int} {tgt : Nat} (d : decode (mm_mc M) pc = .ok (.ifCond .gt off, 3)) (ht : (pc : Int) + off = (tgt : Int)) (kt : x > 0 → MW M tgt L S h cc cs Post) (kf : ¬ (x > 0) → MW M (pc + 3) L S h cc cs Post) : MW M pc L (.int x :: S) h cc cs Post := by
  intro l p e s m args below meth c D A H locs ls C R Lh
  exact lv_if_gt C.1 C.2.1 d ht (fun z => kt z l p e s m args below meth c D A H locs ls C R Lh) (fun z => kf z l p e s m args below meth c D A H locs ls C R Lh)
theorem mw_icmp_gt {x y : Int32} {off : Int} {tgt : Nat} (d : decode (mm_mc M) pc = .ok (.if_icmp .gt off, 3)) (ht : (pc : Int) + off = (tgt : Int)) (kt : x > y → MW M tgt L S h cc cs Post) (kf : ¬ (x > y) → MW M (pc + 3) L S h cc cs Post) : MW M pc L (.int y :: .int x :: S) h cc cs Post := by
  intro l p e s m args below meth c D A H locs ls C R Lh
  exact lv_icmp_gt C.1 C.2.1 d ht (fun z => kt z l p e s m args below meth c D A H locs ls C R Lh) (fun z => kf z l p e s m args below meth c D A H locs ls C R Lh)
theorem mw_if_le {x : Int32} {off : Int} {tgt : Nat} (d : decode (mm_mc M) pc = .ok (.ifCond .le off, 3)) (ht : (pc : Int) + off = (tgt : Int)) (kt : x ≤ 0 → MW M tgt L S h cc cs Post) (kf : ¬ (x ≤ 0) → MW M (pc + 3) L S h cc cs Post) : MW M pc L (.int x :: S) h cc cs Post := by
  intro l p e s m args below meth c D A H locs ls C R Lh
  exact lv_if_le C.1 C.2.1 d ht (fun z => kt z l p e s m args below meth c D A H locs ls C R Lh) (fun z => kf z l p e s m args below meth c D A H locs ls C R Lh)
theorem mw_icmp_le {x y : Int32} {off : Int} {tgt : Nat} (d : decode (mm_mc M) pc = .ok (.if_icmp .le off, 3)) (ht : (pc : Int) + off = (tgt : Int)) (kt : x ≤ y → MW M tgt L S h cc cs Post) (kf : ¬ (x ≤ y) → MW M (pc + 3) L S h cc cs Post) : MW M pc L (.int y :: .int x :: S) h cc cs Post := by
  intro l p e s m args below meth c D A H locs ls C R Lh
  exact lv_icmp_le C.1 C.2.1 d ht (fun z => kt z l p e s m args below meth c D A H locs ls C R Lh) (fun z => kf z l p e s m args below meth c D A H locs ls C R Lh)
def mm_ok1 (L : List (Option Value)) (i : Nat) : Bool := match i with
  | 0 => true
  | j + 1 => match L[j]? with
    | some (some v) => v.category == 1
    | _ => true
theorem mm_store1 {ls : Array Slot} {n i : Nat} {L L' : List (Option Value)} {v : Value} (h : mm_L ls n L) (hi : i < n) (hc : v.category = 1) (hk : mm_ok1 L i = true) (hL : L.set i (some v) = L') : ∃ ls', storeLocals ls i v = some ls' ∧ mm_L ls' n L' := by
  obtain ⟨h1, h2, h3⟩ := h
  obtain ⟨ls', e', w1, w2, w3⟩ := lv_store1 (l := []) (v := v) ⟨h1, h2, fun q hq => by cases hq⟩ hi hc
  refine ⟨ls', e', w1, w2, fun j x hx => ?_⟩
  subst hL
  by_cases hj : j = i
  · subst hj
    have hl : j < (L.set j (some v)).length := (List.getElem?_eq_some_iff.mp hx).1
    rw [List.length_set] at hl
    rw [List.getElem?_set_self hl] at hx
    cases hx
    exact w3 (j, v) List.mem_cons_self
  · rw [List.getElem?_set_ne (Ne.symm hj)] at hx
    obtain ⟨ls'', e'', y1, y2, y3⟩ := lv_store1 (l := [(j, x)]) (v := v) ⟨h1, h2, fun q hq => by rw [List.mem_singleton.mp hq]; exact h3 j x hx⟩ hi hc
    cases Option.some.inj (e'.symm.trans e'')
    refine y3 (j, x) (List.mem_cons_of_mem _ ?_)
    rw [List.mem_filter]
    refine ⟨List.mem_singleton.mpr rfl, ?_⟩
    simp only [Bool.and_eq_true, Bool.not_eq_true', beq_eq_false_iff_ne, ne_eq, Bool.and_eq_false_imp, beq_iff_eq]
    refine ⟨hj, fun hji hc2 => ?_⟩
    subst hji
    simp only [mm_ok1, hx, beq_iff_eq] at hk
    omega
theorem mm_store2 {ls : Array Slot} {n i : Nat} {L L' : List (Option Value)} {v : Value} (h : mm_L ls n L) (hi : i + 1 < n) (hc : v.category = 2) (hk : mm_ok1 L i = true) (hL : (L.set i (some v)).set (i + 1) none = L') : ∃ ls', storeLocals ls i v = some ls' ∧ mm_L ls' n L' := by
  obtain ⟨h1, h2, h3⟩ := h
  obtain ⟨ls', e', w1, w2, w3⟩ := lv_store2 (l := []) (v := v) ⟨h1, h2, fun q hq => by cases hq⟩ hi hc
  refine ⟨ls', e', w1, w2, fun j x hx => ?_⟩
  subst hL
  by_cases hj1 : j = i + 1
  · subst hj1
    have hl := (List.getElem?_eq_some_iff.mp hx).1
    rw [List.length_set] at hl
    rw [List.getElem?_set_self hl] at hx
    cases hx
  rw [List.getElem?_set_ne (Ne.symm hj1)] at hx
  by_cases hj : j = i
  · subst hj
    have hl : j < (L.set j (some v)).length := (List.getElem?_eq_some_iff.mp hx).1
    rw [List.length_set] at hl
    rw [List.getElem?_set_self hl] at hx
    cases hx
    exact w3 (j, v) List.mem_cons_self
  · rw [List.getElem?_set_ne (Ne.symm hj)] at hx
    obtain ⟨ls'', e'', y1, y2, y3⟩ := lv_store2 (l := [(j, x)]) (v := v) ⟨h1, h2, fun q hq => by rw [List.mem_singleton.mp hq]; exact h3 j x hx⟩ hi hc
    cases Option.some.inj (e'.symm.trans e'')
    refine y3 (j, x) (List.mem_cons_of_mem _ ?_)
    rw [List.mem_filter]
    refine ⟨List.mem_singleton.mpr rfl, ?_⟩
    simp only [Bool.and_eq_true, Bool.not_eq_true', beq_eq_false_iff_ne, ne_eq, Bool.and_eq_false_imp, beq_iff_eq]
    refine ⟨hj, hj1, fun hji hc2 => ?_⟩
    subst hji
    simp only [mm_ok1, hx, beq_iff_eq] at hk
    omega
theorem mw_istore_n {i : Fin 4} {x : Int32} {L2 : List (Option Value)} (d : decode (mm_mc M) pc = .ok (.istore_n i, 1)) (hn : (i : Nat) < mm_mx M) (hk : mm_ok1 L (i : Nat) = true) (hl : L.set (i : Nat) (some (.int x)) = L2) (k : MW M (pc + 1) L2 S h cc cs Post) : MW M pc L (.int x :: S) h cc cs Post := by
  intro l p e s m args below meth c D A H locs ls C R Lh
  obtain ⟨ls', e', Lh'⟩ := mm_store1 (v := .int x) Lh hn rfl hk hl
  intro T hT X
  obtain ⟨hexec, hb, -⟩ := id C
  obtain ⟨t, a, b⟩ := k l p e s m args below meth c D A H locs ls' C R Lh' T hT X
  refine ⟨t, ?_, b⟩
  jvm_step X.here [X.here.top, ↓top_set X.here.top, hexec, hb, d, e']
  first | exact a | exact ⟨rfl, a⟩
theorem mw_istore {i : Nat} {x : Int32} {L2 : List (Option Value)} (d : decode (mm_mc M) pc = .ok (.istore i, 2)) (hn : i < mm_mx M) (hk : mm_ok1 L i = true) (hl : L.set i (some (.int x)) = L2) (k : MW M (pc + 2) L2 S h cc cs Post) : MW M pc L (.int x :: S) h cc cs Post := by
  intro l p e s m args below meth c D A H locs ls C R Lh
  obtain ⟨ls', e', Lh'⟩ := mm_store1 (v := .int x) Lh hn rfl hk hl
  intro T hT X
  obtain ⟨hexec, hb, -⟩ := id C
  obtain ⟨t, a, b⟩ := k l p e s m args below meth c D A H locs ls' C R Lh' T hT X
  refine ⟨t, ?_, b⟩
  jvm_step X.here [X.here.top, ↓top_set X.here.top, hexec, hb, d, e']
  first | exact a | exact ⟨rfl, a⟩
theorem mw_astore_n {i : Fin 4} {x : Nat} {L2 : List (Option Value)} (d : decode (mm_mc M) pc = .ok (.astore_n i, 1)) (hn : (i : Nat) < mm_mx M) (hk : mm_ok1 L (i : Nat) = true) (hl : L.set (i : Nat) (some (.ref x)) = L2) (k : MW M (pc + 1) L2 S h cc cs Post) : MW M pc L (.ref x :: S) h cc cs Post := by
  intro l p e s m args below meth c D A H locs ls C R Lh
  obtain ⟨ls', e', Lh'⟩ := mm_store1 (v := .ref x) Lh hn rfl hk hl
  intro T hT X
  obtain ⟨hexec, hb, -⟩ := id C
  obtain ⟨t, a, b⟩ := k l p e s m args below meth c D A H locs ls' C R Lh' T hT X
  refine ⟨t, ?_, b⟩
  jvm_step X.here [X.here.top, ↓top_set X.here.top, hexec, hb, d, e']
  first | exact a | exact ⟨rfl, a⟩
theorem mw_astore {i : Nat} {x : Nat} {L2 : List (Option Value)} (d : decode (mm_mc M) pc = .ok (.astore i, 2)) (hn : i < mm_mx M) (hk : mm_ok1 L i = true) (hl : L.set i (some (.ref x)) = L2) (k : MW M (pc + 2) L2 S h cc cs Post) : MW M pc L (.ref x :: S) h cc cs Post := by
  intro l p e s m args below meth c D A H locs ls C R Lh
  obtain ⟨ls', e', Lh'⟩ := mm_store1 (v := .ref x) Lh hn rfl hk hl
  intro T hT X
  obtain ⟨hexec, hb, -⟩ := id C
  obtain ⟨t, a, b⟩ := k l p e s m args below meth c D A H locs ls' C R Lh' T hT X
  refine ⟨t, ?_, b⟩
  jvm_step X.here [X.here.top, ↓top_set X.here.top, hexec, hb, d, e']
  first | exact a | exact ⟨rfl, a⟩
theorem mw_astore_nN {i : Fin 4}  {L2 : List (Option Value)} (d : decode (mm_mc M) pc = .ok (.astore_n i, 1)) (hn : (i : Nat) < mm_mx M) (hk : mm_ok1 L (i : Nat) = true) (hl : L.set (i : Nat) (some (.null)) = L2) (k : MW M (pc + 1) L2 S h cc cs Post) : MW M pc L (.null :: S) h cc cs Post := by
  intro l p e s m args below meth c D A H locs ls C R Lh
  obtain ⟨ls', e', Lh'⟩ := mm_store1 (v := .null) Lh hn rfl hk hl
  intro T hT X
  obtain ⟨hexec, hb, -⟩ := id C
  obtain ⟨t, a, b⟩ := k l p e s m args below meth c D A H locs ls' C R Lh' T hT X
  refine ⟨t, ?_, b⟩
  jvm_step X.here [X.here.top, ↓top_set X.here.top, hexec, hb, d, e']
  first | exact a | exact ⟨rfl, a⟩
theorem mw_astoreN {i : Nat}  {L2 : List (Option Value)} (d : decode (mm_mc M) pc = .ok (.astore i, 2)) (hn : i < mm_mx M) (hk : mm_ok1 L i = true) (hl : L.set i (some (.null)) = L2) (k : MW M (pc + 2) L2 S h cc cs Post) : MW M pc L (.null :: S) h cc cs Post := by
  intro l p e s m args below meth c D A H locs ls C R Lh
  obtain ⟨ls', e', Lh'⟩ := mm_store1 (v := .null) Lh hn rfl hk hl
  intro T hT X
  obtain ⟨hexec, hb, -⟩ := id C
  obtain ⟨t, a, b⟩ := k l p e s m args below meth c D A H locs ls' C R Lh' T hT X
  refine ⟨t, ?_, b⟩
  jvm_step X.here [X.here.top, ↓top_set X.here.top, hexec, hb, d, e']
  first | exact a | exact ⟨rfl, a⟩
theorem mw_lstore_n {i : Fin 4} {x : Int64} {L2 : List (Option Value)} (d : decode (mm_mc M) pc = .ok (.lstore_n i, 1)) (hn : (i : Nat) + 1 < mm_mx M) (hk : mm_ok1 L (i : Nat) = true) (hl : (L.set (i : Nat) (some (.long x))).set ((i : Nat) + 1) none = L2) (k : MW M (pc + 1) L2 S h cc cs Post) : MW M pc L (.long x :: S) h cc cs Post := by
  intro l p e s m args below meth c D A H locs ls C R Lh
  obtain ⟨ls', e', Lh'⟩ := mm_store2 (v := .long x) Lh hn rfl hk hl
  intro T hT X
  obtain ⟨hexec, hb, -⟩ := id C
  obtain ⟨t, a, b⟩ := k l p e s m args below meth c D A H locs ls' C R Lh' T hT X
  refine ⟨t, ?_, b⟩
  jvm_step X.here [X.here.top, ↓top_set X.here.top, hexec, hb, d, e']
  first | exact a | exact ⟨rfl, a⟩
theorem mw_lstore {i : Nat} {x : Int64} {L2 : List (Option Value)} (d : decode (mm_mc M) pc = .ok (.lstore i, 2)) (hn : i + 1 < mm_mx M) (hk : mm_ok1 L i = true) (hl : (L.set i (some (.long x))).set (i + 1) none = L2) (k : MW M (pc + 2) L2 S h cc cs Post) : MW M pc L (.long x :: S) h cc cs Post := by
  intro l p e s m args below meth c D A H locs ls C R Lh
  obtain ⟨ls', e', Lh'⟩ := mm_store2 (v := .long x) Lh hn rfl hk hl
  intro T hT X
  obtain ⟨hexec, hb, -⟩ := id C
  obtain ⟨t, a, b⟩ := k l p e s m args below meth c D A H locs ls' C R Lh' T hT X
  refine ⟨t, ?_, b⟩
  jvm_step X.here [X.here.top, ↓top_set X.here.top, hexec, hb, d, e']
  first | exact a | exact ⟨rfl, a⟩
theorem mw_iinc {i : Nat} {n : Int} {x v : Int32} {L2 : List (Option Value)} (d : decode (mm_mc M) pc = .ok (.iinc i n, 3)) (hx : L[i]? = some (some (.int x))) (hv : x + Int32.ofInt n = v) (hn : i < mm_mx M) (hk : mm_ok1 L i = true) (hl : L.set i (some (.int v)) = L2) (k : MW M (pc + 3) L2 S h cc cs Post) : MW M pc L S h cc cs Post := by
  intro l p e s m args below meth c D A H locs ls C R Lh
  subst hv
  have hg := Lh.2.2 _ _ hx
  obtain ⟨ls', e', Lh'⟩ := mm_store1 (v := .int (x + Int32.ofInt n)) Lh hn rfl hk hl
  intro T hT X
  obtain ⟨hexec, hb, -⟩ := id C
  obtain ⟨t, a, b⟩ := k l p e s m args below meth c D A H locs ls' C R Lh' T hT X
  refine ⟨t, ?_, b⟩
  jvm_step X.here [X.here.top, ↓top_set X.here.top, hexec, hb, d, hg, e']
  exact a
theorem mm_end {D : mm_G} {A : Nat → Prop} {s t : State} {H : Heap} {locs : List Loc} {args : Array Value} {v : Option Value} (hK : mm_K D s) (R : mm_R D A h s H locs) (hp : Post (.inl v) h) (ht : t.heap = H) (hW : s.WarmedH t.vm) : mm_Qc D A Post args s (.returned v) t :=
  ⟨⟨v, h, rfl, hp, by rw [ht]; exact R.1, mm_K.moved hW.alike hK, R.2.1⟩, R.2.2.F ht⟩
theorem mw_iret {v : Int32} (hr : mm_mr M = some .int)  (d : decode (mm_mc M) pc = .ok (.ireturn, 1)) (hc : cc ≤ (mm_mo M).cells) (hs : cs ≤ (mm_mo M).slots) (hp : Post (.inl (some (.int v))) h) : MW M pc L [.int v] h cc cs Post := by
  intro l p e s m args below meth c D A H locs ls C R Lh
  have hlocks := C.2.2.2.2.2.2.1
  exact W.widen hc hs (vx_ret (W.iret C.1 C.2.1 (C.2.2.1.trans hr) (fun t ht hW => mm_end C.2.2.2.2.2.2.2.2.1 R hp ht hW) R.2.2.2.2 d hlocks))
theorem mw_zret {v : Int32} (hr : mm_mr M = some .boolean) (hv : v = 0 ∨ v = 1) (d : decode (mm_mc M) pc = .ok (.ireturn, 1)) (hc : cc ≤ (mm_mo M).cells) (hs : cs ≤ (mm_mo M).slots) (hp : Post (.inl (some (.int v))) h) : MW M pc L [.int v] h cc cs Post := by
  intro l p e s m args below meth c D A H locs ls C R Lh
  have hlocks := C.2.2.2.2.2.2.1
  exact W.widen hc hs (vx_ret (W.zret C.1 C.2.1 (C.2.2.1.trans hr) (by rcases hv with rfl | rfl <;> rfl) (fun t ht hW => mm_end C.2.2.2.2.2.2.2.2.1 R hp ht hW) R.2.2.2.2 d hlocks))
theorem mw_vret  (hr : mm_mr M = none)  (d : decode (mm_mc M) pc = .ok (.return_, 1)) (hc : cc ≤ (mm_mo M).cells) (hs : cs ≤ (mm_mo M).slots) (hp : Post (.inl none) h) : MW M pc L [] h cc cs Post := by
  intro l p e s m args below meth c D A H locs ls C R Lh
  have hlocks := C.2.2.2.2.2.2.1
  exact W.widen hc hs (vx_ret (W.vret C.1 C.2.1 (C.2.2.1.trans hr) (fun t ht hW => mm_end C.2.2.2.2.2.2.2.2.1 R hp ht hW) R.2.2.2.2 d hlocks))
theorem mw_lret {v : Int64} (hr : mm_mr M = some .long)  (d : decode (mm_mc M) pc = .ok (.lreturn, 1)) (hc : cc ≤ (mm_mo M).cells) (hs : cs ≤ (mm_mo M).slots) (hp : Post (.inl (some (.long v))) h) : MW M pc L [.long v] h cc cs Post := by
  intro l p e s m args below meth c D A H locs ls C R Lh
  have hlocks := C.2.2.2.2.2.2.1
  exact W.widen hc hs (vx_ret (W.lret C.1 C.2.1 (C.2.2.1.trans hr) (fun t ht hW => mm_end C.2.2.2.2.2.2.2.2.1 R hp ht hW) R.2.2.2.2 d hlocks))
theorem mw_aret {v : Value} {n : String} (hr : mm_mr M = some (.object n)) (hv : v = .null ∨ ∃ a, v = .ref a) (d : decode (mm_mc M) pc = .ok (.areturn, 1)) (hc : cc ≤ (mm_mo M).cells) (hs : cs ≤ (mm_mo M).slots) (hp : Post (.inl (some v)) h) : MW M pc L [v] h cc cs Post := by
  intro l p e s m args below meth c D A H locs ls C R Lh
  have hlocks := C.2.2.2.2.2.2.1
  exact W.widen hc hs (vx_ret (W.aret C.1 C.2.1 (C.2.2.1.trans hr) (Or.inl ⟨n, rfl⟩) hv (fun t ht hW => mm_end C.2.2.2.2.2.2.2.2.1 R hp ht hW) R.2.2.2.2 d hlocks))
end MMr2
