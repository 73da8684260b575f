/-! throws, statics, the script; new objects and arrays; constructors -/
section MMn
theorem mm_keptF {D : mm_G} {A : Nat → Prop} {h : mm_H} {s t : State} {H : Heap} {locs : List Loc} (R : mm_R D A h s H locs) (hz : H.size ≤ t.heap.size) (hq : ∀ q : Nat, q < H.size → t.heap[q]? = H[q]?) : mm_P D h t.heap ∧ va_F A s t :=
  ⟨R.1.kept (fun a ha _ => hq a ha), Nat.le_trans R.2.2.1 hz, fun q h1 h2 => (hq q (Nat.lt_of_lt_of_le h1 R.2.2.1)).trans (R.2.2.2.1 q h1 h2)⟩
abbrev mm_nms : List String := ["java/lang/RuntimeException", "java/lang/Exception"]
def mm_thr (own : String) (ik ic : Nat) (cls : String) : Prop := Bundle.fit cls = true ∧ Cond.classLink own ik cls ∈ mm_B ∧ Cond.initialized cls ∈ mm_B ∧ (∀ w ∈ vx_atS own ic cls mm_nms, w ∈ mm_B ∨ w ∈ mm_nw) ∧ (∀ w ∈ Cond.classLink own ik cls :: Cond.initialized cls :: vx_atS own ic cls mm_nms, vx_ot w = true)
theorem mm_nwOn {w : Cond} (h : mm_isn w = true) : w.onTables = true := by cases w <;> first | rfl | (simp [mm_isn] at h)
variable {M : mm_M} {pc : Nat} {L : List (Option Value)} {S : List Value} {h : mm_H} {cc cs : Nat} {Post : mm_Q}
theorem mw_throw {ik is ic : Nat} {cls text : String} (hx : mm_thr RX7 ik ic cls) (hown : (mm_my M).cls = RX7) (hstr : (is, text) ∈ mm_str) (hh : mm_mh M = []) (d0 : decode (mm_mc M) pc = .ok (.new ik, 3)) (d3 : decode (mm_mc M) (pc + 3) = .ok (.dup, 1)) (d4 : decode (mm_mc M) (pc + 4) = .ok (.ldc is, 2)) (d6 : decode (mm_mc M) (pc + 6) = .ok (.invokespecial ic, 3)) (d9 : decode (mm_mc M) (pc + 9) = .ok (.athrow, 1))
    (hfr : 5 < (mm_mo M).frames) (hlo : (S.map fun v => v.category).sum + 82 ≤ (mm_mo M).locals) (hc : cc + 1 ≤ (mm_mo M).cells) (hs : cs + 6 ≤ (mm_mo M).slots) (hp : Post (.inr cls) h) : MW M pc L S h cc cs Post := by
  intro l p e s m args below meth c D A H locs ls C R Lh
  obtain ⟨x1, x2, x3, x4, x5⟩ := hx
  have hts := C.2.2.2.2.2.1
  have hAm := C.2.2.2.2.2.2.2.2.2.1
  obtain ⟨sa, hsa⟩ := hAm.2.2.1 _ hstr
  refine vx_throwS (names := mm_nms) C.1 C.2.1 C.2.2.2.2.2.2.2.1 (own := RX7) (by rw [← hown]; exact C.2.2.2.2.1) x1 (by decide) (hts _ x2) (hts _ x3) hsa (fun w hw => ?_) x5 hAm.1 hAm.2.1 R.2.2 (Lh.1.trans C.2.2.2.1.symm) d0 d3 d4 d6 d9 (fun x hx => ?_) hfr hlo hc hs C.2.2.2.2.2.2.1 (fun t hvm hz hq => ?_) R.2.2.2.2 hc hs
  · rcases x4 w hw with z | z
    · exact hts _ z
    · exact va_Nw.use (mm_nwOn (List.mem_filter.mp z).2) (hAm.2.2.2.2.2.2.2.2.2 _ z)
  · rw [C.2.2.2.2.2.2.2.2.2.2.2.1, hh] at hx
    cases hx
  · obtain ⟨k1, k2⟩ := mm_keptF R hz hq
    exact ⟨⟨h, hp, k1, mm_K.moved hvm C.2.2.2.2.2.2.2.2.1, R.2.1⟩, k2⟩
theorem mw_throwW {ik is ic : Nat} {cls text : String} (hx : mm_thr RX7 ik ic cls) (hown : (mm_my M).cls = RX7) (hstr : (is, text) ∈ mm_str) (hh : mm_mh M = []) (d0 : decode (mm_mc M) pc = .ok (.new ik, 3)) (d3 : decode (mm_mc M) (pc + 3) = .ok (.dup, 1)) (d4 : decode (mm_mc M) (pc + 4) = .ok (.ldc_w is, 3)) (d6 : decode (mm_mc M) (pc + 7) = .ok (.invokespecial ic, 3)) (d9 : decode (mm_mc M) (pc + 10) = .ok (.athrow, 1))
    (hfr : 5 < (mm_mo M).frames) (hlo : (S.map fun v => v.category).sum + 82 ≤ (mm_mo M).locals) (hc : cc + 1 ≤ (mm_mo M).cells) (hs : cs + 6 ≤ (mm_mo M).slots) (hp : Post (.inr cls) h) : MW M pc L S h cc cs Post := by
  intro l p e s m args below meth c D A H locs ls C R Lh
  obtain ⟨x1, x2, x3, x4, x5⟩ := hx
  have hts := C.2.2.2.2.2.1
  have hAm := C.2.2.2.2.2.2.2.2.2.1
  obtain ⟨sa, hsa⟩ := hAm.2.2.1 _ hstr
  refine vx_throwSW (names := mm_nms) C.1 C.2.1 C.2.2.2.2.2.2.2.1 (own := RX7) (by rw [← hown]; exact C.2.2.2.2.1) x1 (by decide) (hts _ x2) (hts _ x3) hsa (fun w hw => ?_) x5 hAm.1 hAm.2.1 R.2.2 (Lh.1.trans C.2.2.2.1.symm) d0 d3 d4 d6 d9 (fun x hx => ?_) hfr hlo hc hs C.2.2.2.2.2.2.1 (fun t hvm hz hq => ?_) R.2.2.2.2 hc hs
  · rcases x4 w hw with z | z
    · exact hts _ z
    · exact va_Nw.use (mm_nwOn (List.mem_filter.mp z).2) (hAm.2.2.2.2.2.2.2.2.2 _ z)
  · rw [C.2.2.2.2.2.2.2.2.2.2.2.1, hh] at hx
    cases hx
  · obtain ⟨k1, k2⟩ := mm_keptF R hz hq
    exact ⟨⟨h, hp, k1, mm_K.moved hvm C.2.2.2.2.2.2.2.2.1, R.2.1⟩, k2⟩
/-- BY_LENGTH.length -/
theorem mw_blen {idx : Nat} (hl : Cond.fieldLink (mm_my M).cls idx RX0 "BY_LENGTH" "[I" ∈ mm_B) (d : decode (mm_mc M) pc = .ok (.getstatic idx, 3)) (d2 : decode (mm_mc M) (pc + 3) = .ok (.arraylength, 1)) (k : MW M (pc + 4) L (.int 14 :: S) h cc cs Post) : MW M pc L S h cc cs Post := by
  intro l p e s m args below meth c D A H locs ls C R Lh
  obtain ⟨tb, z1, z2⟩ := C.2.2.2.2.2.2.2.2.2.1.2.2.2.1
  refine va_gets C.1 C.2.1 z1 R.2.2 C.2.2.2.2.1 (C.2.2.2.2.2.1 _ hl) (fun _ q => q) d ?_
  exact va_tlen C.1 C.2.1 z2 R.2.2 (v := 14) rfl d2 (k l p e s m args below meth c D A H locs ls C R Lh)
/-- BY_LENGTH[local i] -/
theorem mw_bld {idx : Nat} {i : Fin 4} {x v : Int32} (hl : Cond.fieldLink (mm_my M).cls idx RX0 "BY_LENGTH" "[I" ∈ mm_B) (d : decode (mm_mc M) pc = .ok (.getstatic idx, 3)) (d2 : decode (mm_mc M) (pc + 3) = .ok (.iload_n i, 1)) (hx : L[(i : Nat)]? = some (some (.int x))) (d3 : decode (mm_mc M) (pc + 4) = .ok (.iaload, 1)) (hin : vp_in x 14) (hv : mm_bl x.toNatClampNeg = v) (k : MW M (pc + 5) L (.int v :: S) h cc cs Post) : MW M pc L S h cc cs Post := by
  intro l p e s m args below meth c D A H locs ls C R Lh
  obtain ⟨tb, z1, z2⟩ := C.2.2.2.2.2.2.2.2.2.1.2.2.2.1
  refine va_gets C.1 C.2.1 z1 R.2.2 C.2.2.2.2.1 (C.2.2.2.2.2.1 _ hl) (fun _ q => q) d ?_
  refine lv_iload_n C.1 C.2.1 d2 rfl (Lh.2.2 _ _ hx) ?_
  subst hv
  obtain ⟨cell, t1, t2, t3, t4, t5, t6, t7⟩ := z2
  have hlt : x.toNatClampNeg < 14 := Nat.not_le.mp fun q => hin (Or.inr q)
  exact W.iald (v := .int (mm_bl x.toNatClampNeg)) C.1 C.2.1 (by rw [R.2.2.2.1 tb (Array.getElem?_eq_some_iff.mp t1).1 t7]; exact t1) t2 t3 (fun q => hin (q.elim Or.inl (fun z => Or.inr (Nat.le_trans t4 z)))) (t6 _ hlt) rfl rfl d3 (k l p e s m args below meth c D A H locs ls C R Lh)
/-- the script's length, and an int of it -/
theorem mw_slen {b n : Nat} {xs : Nat → Int32} (hsc : mm_ms M = some (b, n, xs)) (d : decode (mm_mc M) pc = .ok (.arraylength, 1)) (k : MW M (pc + 1) L (.int (Int32.ofNat n) :: S) h cc cs Post) : MW M pc L (.ref b :: S) h cc cs Post := by
  intro l p e s m args below meth c D A H locs ls C R Lh
  exact va_tlen C.1 C.2.1 (C.2.2.2.2.2.2.2.2.2.2.2.2.2 _ hsc) R.2.2 rfl d (k l p e s m args below meth c D A H locs ls C R Lh)
theorem mw_sld {b n : Nat} {xs : Nat → Int32} {x v : Int32} (hsc : mm_ms M = some (b, n, xs)) (hin : vp_in x n) (hv : xs x.toNatClampNeg = v) (d : decode (mm_mc M) pc = .ok (.iaload, 1)) (k : MW M (pc + 1) L (.int v :: S) h cc cs Post) : MW M pc L (.int x :: .ref b :: S) h cc cs Post := by
  intro l p e s m args below meth c D A H locs ls C R Lh
  obtain ⟨cell, t1, t2, t3, t4, t5, t6, t7⟩ := C.2.2.2.2.2.2.2.2.2.2.2.2.2 _ hsc
  subst hv
  have hlt : x.toNatClampNeg < n := Nat.not_le.mp fun q => hin (Or.inr q)
  exact W.iald (v := .int (xs x.toNatClampNeg)) C.1 C.2.1 (by rw [R.2.2.2.1 b (Array.getElem?_eq_some_iff.mp t1).1 t7]; exact t1) t2 t3 (fun q => hin (q.elim Or.inl (fun z => Or.inr (Nat.le_trans t4 z)))) (t6 _ hlt) rfl rfl d (k l p e s m args below meth c D A H locs ls C R Lh)
/-- a new thing at q -/
def mm_new (h : mm_H) (q kd n : Nat) : mm_H := (fun b => if b = q then kd else h.1 b, fun b => if b = q then n else h.2.1 b, fun b j => if b = q then 0 else h.2.2.1 b j, fun b j => if b = q then 0 else h.2.2.2.1 b j, fun b j => if b = q then none else h.2.2.2.2 b j)
theorem mm_fv_new_ne (h : mm_H) {q kd n b : Nat} (hb : b ≠ q) (ci : Nat) : mm_fv (mm_new h q kd n) ci b = mm_fv h ci b := by
  funext j; unfold mm_fv mm_val; split <;> simp [mm_i, mm_j, mm_p, mm_new, hb]
theorem mm_ev_new_ne (h : mm_H) {q kd n b : Nat} (hb : b ≠ q) (ty : Nat) : mm_ev (mm_new h q kd n) ty b = mm_ev h ty b := by
  funext j; unfold mm_ev; split <;> simp [mm_i, mm_j, mm_p, mm_new, hb]
theorem mm_newP {D : mm_G} {H H1 : Heap} {q kd n : Nat} (hP : mm_P D h H) (hz : H.size ≤ q) (ho : ∀ x : Nat, x < H.size → H1[x]? = H[x]?) (hq : mm_at D (mm_new h q kd n) q H1) : mm_P D (mm_new h q kd n) H1 := by
  intro b hb
  by_cases hbq : b = q
  · rw [hbq]; exact hq
  · have hk : mm_k (mm_new h q kd n) b = mm_k h b := by simp [mm_k, mm_new, hbq]
    have hn : mm_n (mm_new h q kd n) b = mm_n h b := by simp [mm_n, mm_new, hbq]
    rw [hk] at hb
    have he := ho b (mm_lt hP hb)
    obtain ⟨h1, h2⟩ := hP b hb
    refine ⟨fun ci hc hl => ?_, fun ty ht => ?_⟩
    · rw [hk] at hc
      obtain ⟨r, hr, o⟩ := h1 ci hc hl
      rw [mm_fv_new_ne h hbq]
      exact ⟨r, hr, o.kept he⟩
    · rw [hk] at ht
      rw [mm_ev_new_ne h hbq, hn, he]
      exact h2 ty ht
theorem mm_kself (h : mm_H) (q kd n : Nat) : mm_k (mm_new h q kd n) q = kd := by simp [mm_k, mm_new]
theorem mm_nself (h : mm_H) (q kd n : Nat) : mm_n (mm_new h q kd n) q = n := by simp [mm_n, mm_new]
theorem mm_fresh {D : mm_G} {H : Heap} (hP : mm_P D h H) {q : Nat} (hq : H.size ≤ q) : mm_k h q = 0 := by
  by_cases hk : mm_k h q = 0
  · exact hk
  · have := mm_lt hP hk
    omega
theorem mm_newR {D : mm_G} {A : Nat → Prop} {s : State} {H H1 : Heap} {locs : List Loc} {q kd n : Nat} (hA : ∀ q, s.heap.size ≤ q → A q) (R : mm_R D A h s H locs) (hz : q = H.size) (hz1 : H1.size = H.size + 1) (ho : ∀ x : Nat, x < H.size → H1[x]? = H[x]?) (hq : mm_at D (mm_new h q kd n) q H1) : mm_R D A (mm_new h q kd n) s H1 locs := by
  refine ⟨mm_newP R.1 (by omega) ho hq, fun a ha => ?_, ⟨by have := R.2.2.1; omega, fun x h1 h2 => (ho x (Nat.lt_of_lt_of_le h1 R.2.2.1)).trans (R.2.2.2.1 x h1 h2), R.2.2.2.2⟩⟩
  by_cases haq : a = q
  · subst haq
    exact hA _ (by have := R.2.2.1; omega)
  · exact R.2.1 a (by simpa [mm_k, mm_new, haq] using ha)
theorem mm_dv_val (h : mm_H) (q kd n tt j : Nat) : mm_dv tt = mm_val tt (mm_new h q kd n) q j := by
  match tt with
  | 0 => simp [mm_dv, mm_val, mm_i, mm_new]
  | 1 => simp [mm_dv, mm_val, mm_j, mm_new]
  | 2 => simp [mm_dv, mm_val, mm_p, mm_new, va_rf]
  | t + 3 => simp [mm_dv, mm_val, mm_i, mm_new]
theorem mw_new {ci idx : Nat} {r : vw_C} (hr : mm_okc ci r) (hl : Cond.classLink (mm_my M).cls idx r.1 ∈ mm_B) (hins : Cond.instantiable r.1 r.2.2 ∈ mm_B) (hini : Cond.initialized r.1 ∈ mm_B) (d : decode (mm_mc M) pc = .ok (.new idx, 3)) (hc : cc + 1 ≤ (mm_mo M).cells) (hs : cs + r.2.2 ≤ (mm_mo M).slots) (k : ∀ q : Nat, mm_k h q = 0 → MW M (pc + 3) L (.ref q :: S) (mm_new h q (ci + 1) 0) (cc + 1) (cs + r.2.2) Post) : MW M pc L S h cc cs Post := by
  intro l p e s m args below meth c D A H locs ls C R Lh
  obtain ⟨hrc, hci, hws, hnm, ty0, hty, hdv⟩ := hr
  have hts := C.2.2.2.2.2.1
  have hKn := C.2.2.2.2.2.2.2.2.1.1 ci _ hrc
  refine W.newcK C.1 C.2.1 C.2.2.2.2.1 (hts _ hl) (hts _ hins) (hts _ hini) rfl d hc hs hKn.2.1 rfl fun H1 kC hkC e1 z1 o1 => ?_
  refine k H.size (mm_fresh R.1 (Nat.le_refl _)) l p e s m args below meth c D A H1 locs ls C (mm_newR C.2.2.2.2.2.2.2.2.2.2.1 R rfl z1 o1 ⟨fun ci2 hc2 hl2 => ?_, fun ty ht => ?_⟩) Lh
  · rw [mm_kself] at hc2
    have hcc : ci2 = ci := by omega
    subst hcc
    refine ⟨r, hrc, (u_born ty0 hts hws hKn hkC e1 hty).to (fun j hj => ?_)⟩
    rw [hdv j hj]
    exact mm_dv_val h _ _ _ _ _
  · rw [mm_kself] at ht
    omega
theorem mw_newa {ty : Nat} {at2 : ArrayType} {n : Int32} {N : Nat} (hty : ty < 2) (hat : newarray.typeOf at2 = mm_ty ty) (hl : Cond.arrayClass (newarray.typeOf at2) ∈ mm_B) (hn : ¬ n < 0) (hN : n.toNatClampNeg = N) (hb : N * componentBytes (newarray.typeOf at2) ≤ 536870912) (d : decode (mm_mc M) pc = .ok (.newarray at2, 2)) (hc : cc + 1 ≤ (mm_mo M).cells) (hs : cs + N ≤ (mm_mo M).slots) (k : ∀ q : Nat, mm_k h q = 0 → MW M (pc + 2) L (.ref q :: S) (mm_new h q (ty + 9) N) (cc + 1) (cs + N) Post) : MW M pc L (.int n :: S) h cc cs Post := by
  intro l p e s m args below meth c D A H locs ls C R Lh
  have hts := C.2.2.2.2.2.1
  refine va_newaK C.1 C.2.1 (hts _ hl) rfl d rfl hn hN hb hc hs rfl fun H1 cA e1 z1 o1 hAr hNm => ?_
  refine k H.size (mm_fresh R.1 (Nat.le_refl _)) l p e s m args below meth c D A H1 locs ls C (mm_newR C.2.2.2.2.2.2.2.2.2.2.1 R rfl z1 o1 ⟨fun ci2 hc2 hl2 => ?_, fun ty2 ht => ?_⟩) Lh
  · rw [mm_kself] at hc2
    omega
  · rw [mm_kself] at ht
    have : ty2 = ty := by omega
    subst this
    rw [mm_nself, e1]
    rw [hat] at hNm
    have hK := C.2.2.2.2.2.2.2.2.1
    rcases (show ty2 = 0 ∨ ty2 = 1 by omega) with rfl | rfl
    · have h9 : s.vm.findClass ("[" ++ (mm_ty 0).toString) = some (D.2.2 0) := (hK.2 0 (D.2.2 0, mm_ty 0) rfl).2
      have hcA : cA = D.2.2 0 := Option.some.inj (hNm.symm.trans h9)
      subst hcA
      refine congrArg (fun f => some (arrV (D.2.2 0) N f)) (funext fun j => ?_)
      rw [hat]
      simp [mm_ev, mm_i, mm_new, mm_ty, defaultValue]
    · have h9 : s.vm.findClass ("[" ++ (mm_ty 1).toString) = some (D.2.2 1) := (hK.2 1 (D.2.2 1, mm_ty 1) rfl).2
      have hcA : cA = D.2.2 1 := Option.some.inj (hNm.symm.trans h9)
      subst hcA
      refine congrArg (fun f => some (arrV (D.2.2 1) N f)) (funext fun j => ?_)
      rw [hat]
      simp [mm_ev, mm_j, mm_new, mm_ty, defaultValue]
theorem mm_arrnull {D : mm_G} {H1 : Heap} {q ty N : Nat} {cA : ClassId} (h2 : 2 ≤ ty) (hcA : cA = D.2.2 ty) (e1 : H1[q]? = some (arrV cA N (fun _ => .null))) : mm_at D (mm_new h q (ty + 9) N) q H1 := by
  subst hcA
  refine ⟨fun ci2 hc2 hl2 => ?_, fun ty2 ht => ?_⟩
  · rw [mm_kself] at hc2
    omega
  · rw [mm_kself] at ht
    have : ty2 = ty := by omega
    subst this
    rw [mm_nself, e1]
    refine congrArg (fun f => some (arrV (D.2.2 ty2) N f)) (funext fun j => ?_)
    rw [mm_ev2 _ h2]
    simp [mm_p, mm_new, va_rf]
theorem mw_anew {ty idx : Nat} {Cn : String} {n : Int32} {N : Nat} (h2 : 2 ≤ ty) (h5 : ty < 5) (hty : mm_ty ty = .object Cn) (hl : Cond.classLink (mm_my M).cls idx Cn ∈ mm_B) (hn : ¬ n < 0) (hN : n.toNatClampNeg = N) (hb : N * 4 ≤ 536870912) (d : decode (mm_mc M) pc = .ok (.anewarray idx, 3)) (hc : cc + 1 ≤ (mm_mo M).cells) (hs : cs + N ≤ (mm_mo M).slots) (k : ∀ q : Nat, mm_k h q = 0 → MW M (pc + 3) L (.ref q :: S) (mm_new h q (ty + 9) N) (cc + 1) (cs + N) Post) : MW M pc L (.int n :: S) h cc cs Post := by
  intro l p e s m args below meth c D A H locs ls C R Lh
  subst hN
  have hts := C.2.2.2.2.2.1
  have hAm := C.2.2.2.2.2.2.2.2.2.1
  have hK := C.2.2.2.2.2.2.2.2.1
  have hao : va_AO Cn s := by
    rcases (show ty = 2 ∨ ty = 3 ∨ ty = 4 by omega) with rfl | rfl | rfl <;> cases hty
    · exact hAm.2.2.2.2.1
    · exact hAm.2.2.2.2.2.1
    · exact hAm.2.2.2.2.2.2.1
  have hcl : s.vm.findClass ("[" ++ (FieldType.object Cn).toString) = some (D.2.2 ty) := by
    have h9 : (mm_tys D)[ty]? = some (D.2.2 ty, .object Cn) := by
      rw [← hty]
      rcases (show ty = 2 ∨ ty = 3 ∨ ty = 4 by omega) with rfl | rfl | rfl <;> rfl
    obtain ⟨kA, comp, k1, k2, k3, k4⟩ := (hK.2 ty _ h9).2
    exact k4
  refine W.anew C.1 C.2.1 C.2.2.2.2.1 (hts _ hl) (va_AO.use hao) rfl d rfl hn hb hc hs fun cA kA comp f1 f2 f3 f4 => ?_
  generalize hH1 : H.push ({ cls := cA, slots := Array.replicate n.toNatClampNeg .null, vm := .none } : Cell) = H1
  have z1 : H1.size = H.size + 1 := by rw [← hH1, Array.size_push]
  have e1 : H1[H.size]? = some (arrV cA n.toNatClampNeg (fun _ => .null)) := by rw [← hH1, Array.getElem?_push_size, ← arrV_new]
  have o1 : ∀ q : Nat, q < H.size → H1[q]? = H[q]? := fun q hq => by rw [← hH1, Array.getElem?_push, if_neg (Nat.ne_of_lt hq)]
  exact k H.size (mm_fresh R.1 (Nat.le_refl _)) l p e s m args below meth c D A H1 locs ls C (mm_newR C.2.2.2.2.2.2.2.2.2.2.1 R rfl z1 o1 (mm_arrnull h2 (Option.some.inj (f1.symm.trans hcl)) e1)) Lh
/-- new int[n][k]: the outer array at q, its rows behind it -/
def mm_multi (h : mm_H) (q N K : Nat) : mm_H := (fun b => if b = q then 14 else if q < b ∧ b ≤ q + N then 9 else h.1 b, fun b => if b = q then N else if q < b ∧ b ≤ q + N then K else h.2.1 b, fun b j => if q ≤ b ∧ b ≤ q + N then 0 else h.2.2.1 b j, fun b j => if q ≤ b ∧ b ≤ q + N then 0 else h.2.2.2.1 b j, fun b j => if b = q then (if j < N then some (q + 1 + j) else none) else if q < b ∧ b ≤ q + N then none else h.2.2.2.2 b j)
theorem mw_multi {idx : Nat} {n k2 : Int32} {N K : Nat} (hl : Cond.classLink (mm_my M).cls idx "[[I" ∈ mm_B) (ha : Cond.arrayClass .int ∈ mm_B) (hn : ¬ n < 0) (hk : ¬ k2 < 0) (hN : n.toNatClampNeg = N) (hM : k2.toNatClampNeg = K) (hb1 : N * 4 ≤ 536870912) (hb2 : K * 4 ≤ 536870912) (d : decode (mm_mc M) pc = .ok (.multianewarray idx 2, 4)) (hc : cc + (1 + N) ≤ (mm_mo M).cells) (hs : cs + (N + N * K) ≤ (mm_mo M).slots) (k : ∀ q : Nat, (∀ i, i ≤ N → mm_k h (q + i) = 0) → MW M (pc + 4) L (.ref q :: S) (mm_multi h q N K) (cc + (1 + N)) (cs + (N + N * K)) Post) : MW M pc L (.int k2 :: .int n :: S) h cc cs Post := by
  intro l p e s m args below meth c D A H locs ls C R Lh
  subst hN
  subst hM
  have hts := C.2.2.2.2.2.1
  have hAm := C.2.2.2.2.2.2.2.2.2.1
  have hK := C.2.2.2.2.2.2.2.2.1
  intro T hT Xs
  obtain ⟨vm₁, cA, comp, fA, fC, X', step⟩ := ml_step Xs C.1 C.2.2.2.2.1 (hts _ hl) hAm.2.2.2.2.2.2.2.1 (hts _ ha) (g := F0 m pc ls (.int k2 :: .int n :: S)) rfl (by rw [C.2.1]; exact d) rfl hn hk hb1 hb2 hc hs
  generalize hF : ml_U (T.setVm vm₁) cA comp n.toNatClampNeg k2.toNatClampNeg n.toNatClampNeg = F at X' step
  have hTh : (T.setVm vm₁).heap = H := hT
  have f1 : F.heap.size = H.size + 1 + n.toNatClampNeg := by rw [← hF, ml_size, hTh]
  have f2 := ml_outer (T := T.setVm vm₁) (cA := cA) (cI := comp) (N := n.toNatClampNeg) (K := k2.toNatClampNeg) n.toNatClampNeg
  rw [hF, hTh] at f2
  have hold : ∀ x : Nat, x < H.size → F.heap[x]? = H[x]? := fun x hx => by
    have := ml_old (T := T.setVm vm₁) (cA := cA) (cI := comp) (N := n.toNatClampNeg) (K := k2.toNatClampNeg) (x := x) (by rw [hTh]; exact hx) n.toNatClampNeg
    rw [hF, hTh] at this
    exact this
  have hrow : ∀ j : Nat, j < n.toNatClampNeg → F.heap[H.size + 1 + j]? = some (arrV comp k2.toNatClampNeg (fun _ => .int 0)) := fun j hj => by
    have := ml_row (T := T.setVm vm₁) (cA := cA) (cI := comp) (N := n.toNatClampNeg) (K := k2.toNatClampNeg) n.toNatClampNeg hj
    rw [hF, hTh] at this
    exact this
  have eA : cA = D.2.2 5 := Option.some.inj (fA.symm.trans (hK.2 5 (D.2.2 5, mm_ty 5) rfl).2)
  have eC : comp = D.2.2 0 := Option.some.inj (fC.symm.trans (hK.2 0 (D.2.2 0, mm_ty 0) rfl).2)
  have hP2 : mm_P D (mm_multi h H.size n.toNatClampNeg k2.toNatClampNeg) F.heap := by
    intro b hb
    by_cases hbq : b = H.size
    · subst hbq
      refine ⟨fun ci hc hl => ?_, fun ty ht => ?_⟩
      · simp [mm_k, mm_multi] at hc
        omega
      · have ht5 : ty = 5 := by simp [mm_k, mm_multi] at ht; omega
        subst ht5
        rw [f2, eA]
        have en : mm_n (mm_multi h H.size n.toNatClampNeg k2.toNatClampNeg) H.size = n.toNatClampNeg := by simp [mm_n, mm_multi]
        rw [en]
        refine congrArg (fun f => some (arrV (D.2.2 5) n.toNatClampNeg f)) (funext fun j => ?_)
        rw [mm_ev2 _ (by decide)]
        simp [mm_p, mm_multi]
    · by_cases hbr : H.size < b ∧ b ≤ H.size + n.toNatClampNeg
      · obtain ⟨j, rfl⟩ : ∃ j, b = H.size + 1 + j := ⟨b - H.size - 1, by omega⟩
        have hj : j < n.toNatClampNeg := by omega
        refine ⟨fun ci hc hl => ?_, fun ty ht => ?_⟩
        · simp only [mm_k, mm_multi, if_neg hbq, if_pos hbr] at hc
          omega
        · have ht0 : ty = 0 := by simp only [mm_k, mm_multi, if_neg hbq, if_pos hbr] at ht; omega
          subst ht0
          rw [hrow j hj, eC]
          have en : mm_n (mm_multi h H.size n.toNatClampNeg k2.toNatClampNeg) (H.size + 1 + j) = k2.toNatClampNeg := by simp only [mm_n, mm_multi, if_neg hbq, if_pos hbr]
          rw [en]
          refine congrArg (fun f => some (arrV (D.2.2 0) k2.toNatClampNeg f)) (funext fun i => ?_)
          have h9 : H.size ≤ H.size + 1 + j ∧ H.size + 1 + j ≤ H.size + n.toNatClampNeg := by omega
          simp only [mm_ev, mm_i, mm_multi, if_pos h9]
      · have hk0 : mm_k (mm_multi h H.size n.toNatClampNeg k2.toNatClampNeg) b = mm_k h b := by simp only [mm_k, mm_multi, if_neg hbq, if_neg hbr]
        have hn0 : mm_n (mm_multi h H.size n.toNatClampNeg k2.toNatClampNeg) b = mm_n h b := by simp only [mm_n, mm_multi, if_neg hbq, if_neg hbr]
        have h9 : ¬ (H.size ≤ b ∧ b ≤ H.size + n.toNatClampNeg) := by omega
        have hf0 : ∀ ci, mm_fv (mm_multi h H.size n.toNatClampNeg k2.toNatClampNeg) ci b = mm_fv h ci b := fun ci => by
          funext j; unfold mm_fv mm_val; split <;> simp only [mm_i, mm_j, mm_p, mm_multi, if_neg hbq, if_neg hbr, if_neg h9]
        have he0 : ∀ ty, mm_ev (mm_multi h H.size n.toNatClampNeg k2.toNatClampNeg) ty b = mm_ev h ty b := fun ty => by
          funext j; unfold mm_ev; split <;> simp only [mm_i, mm_j, mm_p, mm_multi, if_neg hbq, if_neg hbr, if_neg h9]
        rw [hk0] at hb
        have he := hold b (mm_lt R.1 hb)
        obtain ⟨h1, h2⟩ := R.1 b hb
        refine ⟨fun ci hc hl => ?_, fun ty ht => ?_⟩
        · rw [hk0] at hc
          obtain ⟨r, hr, o⟩ := h1 ci hc hl
          rw [hf0]
          exact ⟨r, hr, o.kept he⟩
        · rw [hk0] at ht
          rw [he0, hn0, he]
          exact h2 ty ht
  have hR : mm_R D A (mm_multi h H.size n.toNatClampNeg k2.toNatClampNeg) s F.heap locs := by
    refine ⟨hP2, fun a ha => ?_, ⟨by rw [f1]; have := R.2.2.1; omega, fun x h1 h2 => (hold x (Nat.lt_of_lt_of_le h1 R.2.2.1)).trans (R.2.2.2.1 x h1 h2), R.2.2.2.2⟩⟩
    by_cases haz : H.size ≤ a
    · exact C.2.2.2.2.2.2.2.2.2.2.1 a (Nat.le_trans R.2.2.1 haz)
    · refine R.2.1 a ?_
      have h1 : a ≠ H.size := by omega
      have h2 : ¬ (H.size < a ∧ a ≤ H.size + n.toNatClampNeg) := by omega
      simpa only [mm_k, mm_multi, if_neg h1, if_neg h2] using ha
  obtain ⟨t, a1, b1⟩ := k H.size (fun i _ => mm_fresh R.1 (by omega)) l p e s m args below meth c D A F.heap locs ls C hR Lh F rfl (by first | exact X' | simpa [Nat.add_assoc] using X')
  refine ⟨t, step t ?_, b1⟩
  have e : T.heap.size = H.size := by rw [hT]
  rw [e]
  exact a1
theorem mw_objinit {idx a : Nat} (hl : Cond.methodLink (mm_my M).cls idx objectInit ∈ mm_B) (hi : Cond.instanceMethod objectInit ∈ mm_B) (hc : Cond.code objectInit ⟨#[0xb1]⟩ 1 none ∈ mm_B) (hfr : 1 ≤ (mm_mo M).frames) (hlo : (S.map fun v => v.category).sum + 12 ≤ (mm_mo M).locals) (d : decode (mm_mc M) pc = .ok (.invokespecial idx, 3)) (k : MW M (pc + 3) L S h cc cs Post) : MW M pc L (.ref a :: S) h cc cs Post := by
  intro l p e s m args below meth c D A H locs ls C R Lh
  have hts := C.2.2.2.2.2.1
  exact W.objInit C.1 C.2.1 C.2.2.2.2.1 (hts _ hl) (hts _ hi) (hts _ hc) rfl (Lh.1.trans C.2.2.2.1.symm) rfl d hfr (by simpa [JFrame.monitorRoom] using hlo) (k l p e s m args below meth c D A H locs ls C R Lh)
theorem mw_invI {M2 : mm_M} {Post2 : mm_Q} {a idx n : Nat} {As : List Value} (hf : mm_fit M M2 n) (hr : mm_mr M2 = none) (hl : Cond.methodLink (mm_my M).cls idx (mm_my M2) ∈ mm_B) (hi : Cond.instanceMethod (mm_my M2) ∈ mm_B) (hnm : (mm_my M2).name = "<init>") (hn : As.length = n) {st : List Value} (hst : As.reverse ++ .ref a :: S = st) (hcat : (S.map fun v => v.category).sum ≤ 8) (d : decode (mm_mc M) pc = .ok (.invokespecial idx, 3)) (hcc : cc + (mm_mo M2).cells ≤ (mm_mo M).cells) (hcs : cs + (mm_mo M2).slots ≤ (mm_mo M).slots)
    (hM : mm_Met M2 (.ref a :: As) h Post2) (kr : ∀ (v : Option Value) (h2 : mm_H), Post2 (.inl v) h2 → MW M (pc + 3) L (v.toList ++ S) h2 (cc + (mm_mo M2).cells) (cs + (mm_mo M2).slots) Post) (kx : ∀ (E : String) (h2 : mm_H), Post2 (.inr E) h2 → MX M pc L h2 (cc + (mm_mo M2).cells) (cs + (mm_mo M2).slots) Post E) : MW M pc L st h cc cs Post := by
  intro l p e s m args below meth c D A H locs ls C R Lh
  obtain ⟨f1, f2, f3, f4, f5, f6, f7, f8⟩ := hf
  have hM1 := hM l D H.size C.2.2.2.2.2.2.2.1
  rw [if_pos f6] at hM1
  have hts := C.2.2.2.2.2.1
  subst hst
  rw [hr] at f7 hM1
  exact mm_call C R Lh (vx_runI (Ts := mm_B) (own := (mm_my M).cls) (bytes := mm_mc M2) (maxL := mm_mx M2) (nL := mm_mx M) (n := n) ⟨C.1, C.2.1, C.2.2.2.1, C.2.2.2.2.1, hts⟩ hM1 ⟨callB_of n hts (mm_goodB f7) rfl rfl rfl (hts _ f8) (hts _ hl) ⟨f1, f2, f3⟩ ⟨f4, f5⟩, hnm, hts _ hi⟩ ⟨mm_blind, fun U hU hW => mm_pre C R U hU hW⟩ rfl hn Lh.1 rfl (by simpa [JFrame.monitorRoom] using hcat) d ⟨hcc, hcs⟩) kr kx
theorem mw_invIN {M2 : mm_M} {Post2 : mm_Q} {a idx n : Nat} {host : String} {As : List Value} (hf : mm_fit M M2 n) (hr : mm_mr M2 = none) (hl : Cond.methodLinkNest (mm_my M).cls idx (mm_my M2) host ∈ mm_nw) (hi : Cond.instanceMethod (mm_my M2) ∈ mm_B) (hnm : (mm_my M2).name = "<init>") (hn : As.length = n) {st : List Value} (hst : As.reverse ++ .ref a :: S = st) (hcat : (S.map fun v => v.category).sum ≤ 8) (d : decode (mm_mc M) pc = .ok (.invokespecial idx, 3)) (hcc : cc + (mm_mo M2).cells ≤ (mm_mo M).cells) (hcs : cs + (mm_mo M2).slots ≤ (mm_mo M).slots)
    (hM : mm_Met M2 (.ref a :: As) h Post2) (kr : ∀ (v : Option Value) (h2 : mm_H), Post2 (.inl v) h2 → MW M (pc + 3) L (v.toList ++ S) h2 (cc + (mm_mo M2).cells) (cs + (mm_mo M2).slots) Post) (kx : ∀ (E : String) (h2 : mm_H), Post2 (.inr E) h2 → MX M pc L h2 (cc + (mm_mo M2).cells) (cs + (mm_mo M2).slots) Post E) : MW M pc L st h cc cs Post := by
  intro l p e s m args below meth c D A H locs ls C R Lh
  obtain ⟨f1, f2, f3, f4, f5, f6, f7, f8⟩ := hf
  have hM1 := hM l D H.size C.2.2.2.2.2.2.2.1
  rw [if_pos f6] at hM1
  have hts := C.2.2.2.2.2.1
  have hAm := C.2.2.2.2.2.2.2.2.2.1
  subst hst
  rw [hr] at f7 hM1
  exact mm_call C R Lh (vx_runIN (Ts := mm_B) (own := (mm_my M).cls) (host := host) (bytes := mm_mc M2) (maxL := mm_mx M2) (nL := mm_mx M) (n := n) ⟨C.1, C.2.1, C.2.2.2.1, C.2.2.2.2.1, hts⟩ hM1 ⟨va_cnB n hts (mm_goodB f7) rfl rfl rfl (hAm.2.2.2.2.2.2.2.2.2 _ hl) (hts _ f8) ⟨f1, f2, f3⟩ ⟨f4, f5⟩, hnm, hts _ hi⟩ ⟨mm_blind, fun U hU hW => mm_pre C R U hU hW⟩ rfl hn Lh.1 rfl (by simpa [JFrame.monitorRoom] using hcat) d ⟨hcc, hcs⟩) kr kx
/-- a static method with handlers -/
def mm_fitH (M M2 : mm_M) (n : Nat) : Prop := (mm_my M2).cls ≠ "java/lang/invoke/MethodHandle" ∧ (mm_my M2).cls ≠ "java/lang/invoke/VarHandle" ∧ (parseMethodDescriptor (mm_my M2).desc).map (fun d => d.parameters.length) = some n ∧ (mm_mo M2).frames + 1 ≤ (mm_mo M).frames ∧ 8 + (mm_mx M2 + 11) + (mm_mo M2).locals ≤ (mm_mo M).locals ∧ mm_mh M2 ≠ [] ∧ Cond.codeWith (mm_my M2) (mm_mc M2) (mm_mx M2) (mm_mr M2) (mm_mh M2) ∈ mm_B ∧ Cond.initialized (mm_my M2).cls ∈ mm_B
theorem mw_invSH {M2 : mm_M} {Post2 : mm_Q} {idx n : Nat} {As : List Value} (hf : mm_fitH M M2 n) (hl : Cond.methodLink (mm_my M).cls idx (mm_my M2) ∈ mm_B) (hi : Cond.static (mm_my M2) ∈ mm_B) (hn : As.length = n) {st : List Value} (hst : As.reverse ++ S = st) (hcat : (S.map fun v => v.category).sum ≤ 8) (d : decode (mm_mc M) pc = .ok (.invokestatic idx, 3)) (hcc : cc + (mm_mo M2).cells ≤ (mm_mo M).cells) (hcs : cs + (mm_mo M2).slots ≤ (mm_mo M).slots)
    (hM : mm_Met M2 As h Post2) (kr : ∀ (v : Option Value) (h2 : mm_H), Post2 (.inl v) h2 → MW M (pc + 3) L (v.toList ++ S) h2 (cc + (mm_mo M2).cells) (cs + (mm_mo M2).slots) Post) (kx : ∀ (E : String) (h2 : mm_H), Post2 (.inr E) h2 → MX M pc L h2 (cc + (mm_mo M2).cells) (cs + (mm_mo M2).slots) Post E) : MW M pc L st h cc cs Post := by
  intro l p e s m args below meth c D A H locs ls C R Lh
  obtain ⟨f1, f2, f3, f4, f5, f6, f7, f8⟩ := hf
  have hM1 := hM l D H.size C.2.2.2.2.2.2.2.1
  rw [if_neg f6] at hM1
  have hts := C.2.2.2.2.2.1
  subst hst
  refine mm_call C R Lh (vx_runSX (Ts := mm_B) (own := (mm_my M).cls) (bytes := mm_mc M2) (maxL := mm_mx M2) (ret := mm_mr M2) (nL := mm_mx M) (n := n) (hh := mm_mh M2) ⟨C.1, C.2.1, C.2.2.2.1, C.2.2.2.2.1, hts⟩ hM1 ⟨⟨rfl, rfl, f4, f5, pay_in hts (mm_goodB f7), List.mem_cons_self⟩, hts _ f7, hts _ f8, ⟨f1, f2⟩, fun sig hsig => ?_, hts _ hl, hts _ hi⟩ ⟨mm_blind, fun U hU hW => mm_pre C R U hU hW⟩ rfl hn Lh.1 rfl (by simpa [JFrame.monitorRoom] using hcat) d ⟨hcc, hcs⟩) kr kx
  rw [hsig] at f3
  exact (Option.some.inj f3).symm
end MMn
