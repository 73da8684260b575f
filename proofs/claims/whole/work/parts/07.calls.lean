/-! what stands around, moved along; a method's entry; calls; throws -/
theorem mm_ao_moved {t : FieldType} {u U : State} (hvm : u.vm.Alike U.vm) (h : (Cond.arrayOver (.array t)).before #[] u = true) : (Cond.arrayOver (.array t)).before #[] U = true := by
  obtain ⟨comp, c, k, h1, h2, h3, h4, h5⟩ := arrayOverA_spec h
  obtain ⟨k', hk', he⟩ := hvm.2.2 _ _ h3
  have hi : (U.vm.classes.findIdx? fun (x : Class) => match x.kind with | .array component _ => component == comp | _ => false) = some c := by
    refine (va_idx_bare U.vm comp).symm.trans ?_
    have hb : U.vm.bare = u.vm.bare := by first | exact hvm.bare_eq | exact hvm.bare_eq.symm
    rw [hb]
    exact (va_idx_bare u.vm comp).trans h2
  have hkind : k'.kind = .array comp (.array t) := by rw [he]; exact h4
  have f1 : U.vm.findClass (FieldType.array t).toString = some comp := by rw [hvm.findClass]; exact h1
  have f2 : U.vm.findClass ("[" ++ (FieldType.array t).toString) = some c := by rw [hvm.findClass]; exact h5
  unfold Cond.before Cond.holds
  simp only [Cond.value]
  rw [f1, Option.bind_some]
  refine (congrArg (fun o : Option Nat => (o.bind (fun c => (U.vm.classes[c]?).map fun (k : Class) => match k.kind with | .array _ ty => decide (ty = FieldType.array t) && decide (U.vm.findClass ("[" ++ (FieldType.array t).toString) = some c) | _ => false) == some true)) hi).trans ?_
  simp [hk', hkind, f2]
theorem mm_nw_warm {w : Cond} (hw : mm_isn w = true) {s U : State} (hW : s.WarmedH U.vm) (q : va_Nw w s) : va_Nw w U := by
  cases w <;> first | exact va_Nw.warmC hW q | exact va_Nw.warmD hW q | exact va_Nw.warmM hW q | (simp [mm_isn] at hw)
theorem mm_Am.go {A B : Nat → Prop} {u U : State} {H H1 : Heap} (h : mm_Am A u H) (hvm : u.vm.Alike U.vm) (hs : ∀ (k : Nat) (tx : String) (a : Nat), vk_R RX7 k tx a u → vk_R RX7 k tx a U) (hw : ∀ w, mm_isn w = true → va_Nw w u → va_Nw w U) (hq : ∀ a : Nat, a < H.size → ¬ A a → H1[a]? = H[a]?) (hAB : ∀ q, B q → A q) : mm_Am B U H1 := by
  obtain ⟨h1, h2, h3, ⟨tb, h4, h5⟩, h6, h7, h8, h9, h10, h11⟩ := h
  refine ⟨((h1.moved hvm).kept hq).narrow hAB, ((h2.moved hvm).kept hq).narrow hAB, fun q hq => ?_, ⟨tb, ((h4.moved hvm).kept hq).narrow hAB, ((h5.moved hvm).kept hq).narrow hAB⟩, h6.moved hvm, h7.moved hvm, h8.moved hvm, mm_ao_moved hvm h9, fun q hq => (h10 q hq).moved hvm, fun w h => hw w (List.mem_filter.mp h).2 (h11 w h)⟩
  obtain ⟨a, ha⟩ := h3 q hq
  exact ⟨a, hs _ _ _ ha⟩
theorem mm_Am.warm {A B : Nat → Prop} {s U : State} {H : Heap} {locs : List Loc} (h : mm_Am A s s.heap) (hW : s.WarmedH U.vm) (hS : va_S A s.heap H locs) (hAB : ∀ q, B q → A q) : mm_Am B U H :=
  h.go hW.alike (fun _ _ _ q => q.warm hW) (fun w hw q => mm_nw_warm hw hW q) (fun a h1 h2 => hS.2.1 a h1 h2) hAB
theorem mm_Am.same {A : Nat → Prop} {u U : State} {H : Heap} (h : mm_Am A u H) (hv : U.vm = u.vm) : mm_Am A U H :=
  h.go (by rw [hv]; exact Vm.Alike.refl _) (fun _ _ _ q => q.same hv) (fun w hw q => va_Nw.same (by cases w <;> first | rfl | (simp [mm_isn] at hw)) hv.symm q) (fun _ _ _ => rfl) (fun _ q => q)
/-- the locals at the entry -/
def mm_ent (n : Nat) : List Value → List (Option Value)
  | [] => List.replicate n none
  | v :: r => if v.category = 2 then some v :: none :: mm_ent (n - 2) r else some v :: mm_ent (n - 1) r
theorem mm_ent_in : ∀ (av : List Value) (n b i : Nat) (v : Value), (mm_ent n av)[i]? = some (some v) → (b + i, v) ∈ lv_args b av
  | [], n, b, i, v, h => by
    rw [mm_ent] at h
    have := List.mem_of_getElem? h
    simp at this
  | x :: r, n, b, i, v, h => by
    unfold mm_ent at h
    unfold lv_args
    by_cases hc : x.category = 2
    · rw [if_pos hc] at h
      cases i with
      | zero => cases h; exact List.mem_cons_self
      | succ i =>
        cases i with
        | zero => cases h
        | succ i =>
          refine List.mem_cons_of_mem _ ?_
          have h2 := mm_ent_in r (n - 2) (b + 2) i v h
          rw [hc]
          have : b + 2 + i = b + (i + 1 + 1) := by omega
          rw [← this]; exact h2
    · rw [if_neg hc] at h
      have hc1 : x.category = 1 := by rcases lv_cat x with h | h; exact h; exact absurd h hc
      cases i with
      | zero => cases h; exact List.mem_cons_self
      | succ i =>
        refine List.mem_cons_of_mem _ ?_
        have h2 := mm_ent_in r (n - 1) (b + 1) i v h
        rw [hc1]
        have : b + 1 + i = b + (i + 1) := by omega
        rw [← this]; exact h2
theorem mm_met_of {M : mm_M} {av : List Value} {h : mm_H} {Post : mm_Q} {L : List (Option Value)} (hh : mm_mh M = []) (hsc : mm_ms M = none) (hy : plainName (mm_my M).cls = true) (hlen : (lg_sl av).length ≤ mm_mx M) (hL : mm_ent (mm_mx M) av = L) (hw : MW M 0 L [] h 0 0 Post) : mm_Met M av h Post := by
  intro l D sz hl
  rw [if_pos hh]
  refine vx_ofW (cc := mm_mc M) (maxL := mm_mx M) (ret := mm_mr M) hy rfl ?_
  intro p e s m args below meth c s₁ B hml htab hv
  obtain ⟨rfl, hsz, hP, hK, hAm⟩ := hv
  subst hsz
  have hts := atoms_spec (ws := Cond.code (mm_my M) (mm_mc M) (mm_mx M) (mm_mr M) :: mm_B) B.pre
  have he := lv_entry av (n := mm_mx M) hlen
  rw [lg_entry_eq]
  refine hw l p e s m _ below meth c D (mm_A h s.heap.size) s.heap [] _ ⟨B.exec, B.bytes, B.returns, hml, findClass_of_methodNamed B.named, fun w hw => hts w (List.mem_cons_of_mem _ hw), B.notSynchronized, hl, hK, hAm, fun q hq => Or.inr hq, ?_, (name_of_methodNamed B.named B.method).1, fun q hq => by rw [hsc] at hq; cases hq⟩ ⟨hP, fun a ha => Or.inl ha, va_S.rf⟩ ⟨he.1, he.2.1, fun i v hv => ?_⟩
  · rw [hh]
    cases ht : c.exceptionTable.toList with
    | nil => rfl
    | cons x xs => exact absurd (htab x (by rw [ht]; exact List.mem_cons_self)) id
  · subst hL
    have h2 := mm_ent_in av (mm_mx M) 0 i v hv
    rw [Nat.zero_add] at h2
    exact he.2.2 (i, v) h2
/-- a body with handlers -/
theorem mm_met_ofH {M : mm_M} {av : List Value} {h : mm_H} {Post : mm_Q} {L : List (Option Value)} (hh : mm_mh M ≠ []) (hsc : mm_ms M = none) (hy : plainName (mm_my M).cls = true) (hlen : (lg_sl av).length ≤ mm_mx M) (hL : mm_ent (mm_mx M) av = L) (hw : MW M 0 L [] h 0 0 Post) : mm_Met M av h Post := by
  intro l D sz hl
  rw [if_neg hh]
  refine vx_ofWH (cc := mm_mc M) (maxL := mm_mx M) (ret := mm_mr M) (hh := mm_mh M) hy rfl ?_
  intro p e s m args below meth c s₁ B hml hv
  obtain ⟨rfl, hsz, hP, hK, hAm⟩ := hv
  subst hsz
  have hts := atoms_spec (ws := Cond.codeWith (mm_my M) (mm_mc M) (mm_mx M) (mm_mr M) (mm_mh M) :: mm_B) B.pre
  have he := lv_entry av (n := mm_mx M) hlen
  rw [lg_entry_eq]
  refine hw l p e s m _ below meth c D (mm_A h s.heap.size) s.heap [] _ ⟨B.exec, B.bytes, B.returns, hml, findClass_of_methodNamed B.named, fun w hw => hts w (List.mem_cons_of_mem _ hw), B.notSynchronized, hl, hK, hAm, fun q hq => Or.inr hq, vx_table (x := mm_my M) B (hts _ List.mem_cons_self), (name_of_methodNamed B.named B.method).1, fun q hq => by rw [hsc] at hq; cases hq⟩ ⟨hP, fun a ha => Or.inl ha, va_S.rf⟩ ⟨he.1, he.2.1, fun i v hv => ?_⟩
  subst hL
  have h2 := mm_ent_in av (mm_mx M) 0 i v hv
  rw [Nat.zero_add] at h2
  exact he.2.2 (i, v) h2
theorem mm_Met.post {M : mm_M} {av : List Value} {h : mm_H} {Post Post2 : mm_Q} (k : mm_Met M av h Post2) (hp : ∀ o h2, Post2 o h2 → Post o h2) : mm_Met M av h Post := by
  intro l D sz hl
  intro p e g1 g2 g3 s m args below hf ha hP hK
  obtain ⟨n, o, a1, a2, a3, a4⟩ := k l D sz hl p e g1 g2 g3 s m args below hf ha hP hK
  refine ⟨n, o, a1, a2, a3, ?_⟩
  rcases a4 with ⟨⟨⟨v, h2, q1, q2, q3⟩, q4⟩, q5⟩ | ⟨q, e1, E, ce, LL, ⟨⟨h2, q2, q3⟩, q4⟩, q5⟩
  · exact Or.inl ⟨⟨⟨v, h2, q1, hp _ _ q2, q3⟩, q4⟩, q5⟩
  · exact Or.inr ⟨q, e1, E, ce, LL, ⟨⟨h2, hp _ _ q2, q3⟩, q4⟩, q5⟩
section MMc
variable {M : mm_M} {pc : Nat} {L : List (Option Value)} {S : List Value} {h : mm_H} {cc cs : Nat} {Post : mm_Q}
/-- the method's frame at pc, with an object of class E thrown over it -/
def MX (M : mm_M) (pc : Nat) (L : List (Option Value)) (h : mm_H) (cc cs : Nat) (Post : mm_Q) (E : String) : Prop :=
  ∀ (l : Launch) (p : Program) (e : Env) (s : State) (m : MethodId) (args : Array Value) (below : List Frame) (meth : Method) (c : Code) (D : mm_G) (A : Nat → Prop) (H : Heap) (locs : List Loc) (ls : Array Slot) (S : List Value) (q : Nat) (ce : Cell),
    mm_C M l p s m args meth c D A → mm_R D A h s H locs → mm_L ls (mm_mx M) L → H[q]? = some ce → ce.vm = .none → s.vm.findClass E = some ce.cls → vx_W p l e (mm_mo M) s m args below meth c H locs cc cs (mm_E M below D A Post args s) (F0 m pc ls S) q
theorem mx_out {E : String} (hh : mm_mh M = []) (hc : cc ≤ (mm_mo M).cells) (hs : cs ≤ (mm_mo M).slots) (hp : Post (.inr E) h) : MX M pc L h cc cs Post E := by
  intro l p e s m args below meth c D A H locs ls S q ce C R Lh hce hv hcl
  have htab := C.2.2.2.2.2.2.2.2.2.2.2.1
  refine vx_out (fun x hx => ?_) C.2.2.2.2.2.2.1 hce hv hcl (fun t ht hvm => ?_) R.2.2.2.2 hc hs
  · rw [htab, hh] at hx
    cases hx
  · exact ⟨⟨h, hp, by rw [ht]; exact R.1, mm_K.moved hvm C.2.2.2.2.2.2.2.2.1, R.2.1⟩, R.2.2.F ht⟩
theorem mx_catch {E name : String} (pre : List (Nat × Nat × Nat × Nat)) (x : Nat × Nat × Nat × Nat) (suf : List (Nat × Nat × Nat × Nat)) (hsp : mm_mh M = pre ++ x :: suf) (hpass : ∀ z ∈ pre, z.2.2.2 ≠ 0 ∧ ∃ nm : String, Cond.classLink (mm_my M).cls z.2.2.2 nm ∈ mm_B ∧ (E, nm) ∈ mm_nc) (hx : covers ⟨x.1, x.2.1, x.2.2.1, x.2.2.2⟩ pc = true) (h0 : x.2.2.2 ≠ 0) (hlink : Cond.classLink (mm_my M).cls x.2.2.2 name ∈ mm_B) (hcast : Cond.castable E name ∈ mm_nw)
    (k : ∀ q : Nat, MW M x.2.2.1 L [.ref q] h cc cs Post) : MX M pc L h cc cs Post E := by
  intro l p e s m args below meth c D A H locs ls S q ce C R Lh hce hv hcl
  have htab := C.2.2.2.2.2.2.2.2.2.2.2.1
  have hts := C.2.2.2.2.2.1
  have hAm := C.2.2.2.2.2.2.2.2.2.1
  refine vx_catch (own := (mm_my M).cls) (name := name) (E := E) C.2.2.2.2.1 (tableOf pre) ⟨x.1, x.2.1, x.2.2.1, x.2.2.2⟩ (tableOf suf) (by rw [htab, hsp]; simp [tableOf]) (fun z hz => ?_) hx h0 (hts _ hlink) (va_Nw.use rfl (hAm.2.2.2.2.2.2.2.2.2 _ hcast)) hce hv hcl (k q l p e s m args below meth c D A H locs ls C R Lh)
  unfold tableOf at hz
  obtain ⟨y, hy, rfl⟩ := List.mem_map.mp hz
  obtain ⟨g1, nm, g2, g3⟩ := hpass y hy
  exact Or.inr ⟨g1, nm, hts _ g2, hAm.2.2.2.2.2.2.2.2.1 _ g3⟩
/-- behind a call -/
theorem mm_call {l : Launch} {p : Program} {e : Env} {s : State} {m : MethodId} {args a : Array Value} {below : List Frame} {meth : Method} {c : Code} {D : mm_G} {A : Nat → Prop} {H : Heap} {locs : List Loc} {ls : Array Slot} {st0 : List Value} {mc ms : Nat} {Post2 : mm_Q} (C : mm_C M l p s m args meth c D A) (R : mm_R D A h s H locs) (Lh : mm_L ls (mm_mx M) L)
    (hr : vx_Run p l e (mm_mo M) s m args below meth c H locs cc cs mc ms (F0 m pc ls st0) S (mm_Qc D (mm_A h H.size) Post2 a) (mm_XC D (mm_A h H.size) Post2) (mm_A h H.size))
    (kr : ∀ (v : Option Value) (h2 : mm_H), Post2 (.inl v) h2 → MW M (pc + 3) L (v.toList ++ S) h2 (cc + mc) (cs + ms) Post) (kx : ∀ (E : String) (h2 : mm_H), Post2 (.inr E) h2 → MX M pc L h2 (cc + mc) (cs + ms) Post E) :
    W p l e (mm_mo M) s m args below meth c H locs cc cs (mm_E M below D A Post args s) (F0 m pc ls st0) := by
  have hf : ∀ q, mm_A h H.size q → A q := fun q hq => hq.elim (R.2.1 q) (fun z => C.2.2.2.2.2.2.2.2.2.2.1 q (Nat.le_trans R.2.2.1 z))
  intro T hT X
  rcases hr T hT X with ⟨v, st₀, t, T', Lc, h0, X', hL, e1, e2, ⟨⟨v', h', hv, hp, hW⟩, hF⟩, st⟩ | ⟨q, st₀, t, T', Lc, E, ce, h0, X', hL, e1, e2, ⟨⟨h', hp, hW⟩, hF⟩, hce, hcv, hcl, st⟩
  · cases hv
    obtain ⟨k1, k2, k3⟩ := vx_keep h0 e1 R.2.2 (fun q _ z => hf q z) hf hL hF
    obtain ⟨t2, a1, b1⟩ := kr v h' hp l p e s m args below meth c D A T'.heap (locs ++ Lc) ls C ⟨by rw [e1]; exact hW.1, fun a ha => hf a (hW.2.2 a ha), k3⟩ Lh T' rfl X'
    exact ⟨t2, st t2 a1, b1⟩
  · obtain ⟨k1, k2, k3⟩ := vx_keep h0 e1 R.2.2 (fun q _ z => hf q z) hf hL hF
    obtain ⟨t2, a1, b1⟩ := kx E h' hp l p e s m args below meth c D A T'.heap (locs ++ Lc) ls S q ce C ⟨by rw [e1]; exact hW.1, fun a ha => hf a (hW.2.2 a ha), k3⟩ Lh (by rw [e1]; exact hce) hcv hcl T' rfl X'
    exact ⟨t2, st.trans a1, b1⟩
theorem mm_blind {av : List Value} {D : mm_G} {sz : Nat} : FrameBlind (va_Pc av (fun U => U.heap.size = sz ∧ mm_P D h U.heap ∧ mm_K D U ∧ mm_Am (mm_A h sz) U U.heap)) := by
  intro a U g mk q
  obtain ⟨q0, q1, qP, qK, qA⟩ := q
  exact ⟨q0, q1, qP, mm_K.moved (u := U) (U := U.calling g mk a) (Vm.Alike.refl U.vm) qK, qA.same (U := U.calling g mk a) rfl⟩
theorem mm_pre {l : Launch} {p : Program} {s : State} {m : MethodId} {args : Array Value} {meth : Method} {c : Code} {D : mm_G} {A : Nat → Prop} {H : Heap} {locs : List Loc} {av : List Value} (C : mm_C M l p s m args meth c D A) (R : mm_R D A h s H locs) (U : State) (hU : U.heap = H) (hW : s.WarmedH U.vm) : va_Pc av (fun U => U.heap.size = H.size ∧ mm_P D h U.heap ∧ mm_K D U ∧ mm_Am (mm_A h H.size) U U.heap) av.toArray U :=
  ⟨rfl, by rw [hU], by rw [hU]; exact R.1, mm_K.moved hW.alike C.2.2.2.2.2.2.2.2.1, by
    rw [hU]
    exact C.2.2.2.2.2.2.2.2.2.1.warm hW R.2.2 (fun q hq => hq.elim (R.2.1 q) (fun z => C.2.2.2.2.2.2.2.2.2.2.1 q (Nat.le_trans R.2.2.1 z)))⟩
/-- the words of a callee -/
theorem mm_goodB {x : Cond} (hx : x ∈ mm_B) : GoodIn mm_B (x :: mm_B) := by
  intro w hw
  rcases List.mem_cons.mp hw with rfl | hw
  · exact ⟨hx, good_of_word (List.mem_filter.mp hx).2⟩
  · exact ⟨hw, good_of_word (List.mem_filter.mp hw).2⟩
def mm_fit (M M2 : mm_M) (n : Nat) : Prop := (mm_my M2).cls ≠ "java/lang/invoke/MethodHandle" ∧ (mm_my M2).cls ≠ "java/lang/invoke/VarHandle" ∧ (parseMethodDescriptor (mm_my M2).desc).map (fun d => d.parameters.length) = some n ∧ (mm_mo M2).frames + 1 ≤ (mm_mo M).frames ∧ 8 + (mm_mx M2 + 11) + (mm_mo M2).locals ≤ (mm_mo M).locals ∧ mm_mh M2 = [] ∧ Cond.code (mm_my M2) (mm_mc M2) (mm_mx M2) (mm_mr M2) ∈ mm_B ∧ Cond.initialized (mm_my M2).cls ∈ mm_B
theorem mw_invV {M2 : mm_M} {Post2 : mm_Q} {a ci idx n : Nat} {As : List Value} {r : vw_C} (hf : mm_fit M M2 n) (hl : Cond.methodLink (mm_my M).cls idx (mm_my M2) ∈ mm_B) (hi : Cond.instanceMethod (mm_my M2) ∈ mm_B) (hs : Cond.selects (mm_my M2).cls (mm_my M2) (mm_my M2) ∈ mm_B) (hr : vwCl[ci]? = some r) (hci : ci < 8) (hcl : r.1 = (mm_my M2).cls) (hk : mm_k h a = ci + 1) (hn : As.length = n) {st : List Value} (hst : As.reverse ++ .ref a :: S = st) (hcat : (S.map fun v => v.category).sum ≤ 8) (d : decode (mm_mc M) pc = .ok (.invokevirtual idx, 3)) (hcc : cc + (mm_mo M2).cells ≤ (mm_mo M).cells) (hcs : cs + (mm_mo M2).slots ≤ (mm_mo M).slots)
    (hM : mm_Met M2 (.ref a :: As) h Post2) (kr : ∀ (v : Option Value) (h2 : mm_H), Post2 (.inl v) h2 → MW M (pc + 3) L (v.toList ++ S) h2 (cc + (mm_mo M2).cells) (cs + (mm_mo M2).slots) Post) (kx : ∀ (E : String) (h2 : mm_H), Post2 (.inr E) h2 → MX M pc L h2 (cc + (mm_mo M2).cells) (cs + (mm_mo M2).slots) Post E) : MW M pc L st h cc cs Post := by
  intro l p e s m args below meth c D A H locs ls C R Lh
  obtain ⟨f1, f2, f3, f4, f5, f6, f7, f8⟩ := hf
  have hM1 := hM l D H.size C.2.2.2.2.2.2.2.1
  rw [if_pos f6] at hM1
  have hts := C.2.2.2.2.2.1
  subst hst
  obtain ⟨r', hr', cellV, g1, g2, g3, -⟩ := (R.1 a (by omega)).1 ci hk hci
  refine mm_call C R Lh (vx_runV (Ts := mm_B) (own := (mm_my M).cls) (C := (mm_my M2).cls) (bytes := mm_mc M2) (maxL := mm_mx M2) (ret := mm_mr M2) (nL := mm_mx M) (n := n) ⟨C.1, C.2.1, C.2.2.2.1, C.2.2.2.2.1, hts⟩ hM1 ⟨callB_of n hts (mm_goodB f7) rfl rfl rfl (hts _ f8) (hts _ hl) ⟨f1, f2, f3⟩ ⟨f4, f5⟩, hts _ hi, hts _ hs⟩ ⟨mm_blind, ⟨cellV, g1, by rw [g3]; rfl, ?_⟩, fun U hU hW => mm_pre C R U hU hW⟩ rfl hn Lh.1 rfl (by simpa [JFrame.monitorRoom] using hcat) d ⟨hcc, hcs⟩) kr kx
  rw [g2, ← hcl]
  exact (C.2.2.2.2.2.2.2.2.1.1 ci r hr).2.1
theorem mw_invS {M2 : mm_M} {Post2 : mm_Q} {idx n : Nat} {As : List Value} (hf : mm_fit M M2 n) (hl : Cond.methodLink (mm_my M).cls idx (mm_my M2) ∈ mm_B) (hi : Cond.static (mm_my M2) ∈ mm_B) (hn : As.length = n) {st : List Value} (hst : As.reverse ++ S = st) (hcat : (S.map fun v => v.category).sum ≤ 8) (d : decode (mm_mc M) pc = .ok (.invokestatic idx, 3)) (hcc : cc + (mm_mo M2).cells ≤ (mm_mo M).cells) (hcs : cs + (mm_mo M2).slots ≤ (mm_mo M).slots)
    (hM : mm_Met M2 As h Post2) (kr : ∀ (v : Option Value) (h2 : mm_H), Post2 (.inl v) h2 → MW M (pc + 3) L (v.toList ++ S) h2 (cc + (mm_mo M2).cells) (cs + (mm_mo M2).slots) Post) (kx : ∀ (E : String) (h2 : mm_H), Post2 (.inr E) h2 → MX M pc L h2 (cc + (mm_mo M2).cells) (cs + (mm_mo M2).slots) Post E) : MW M pc L st h cc cs Post := by
  intro l p e s m args below meth c D A H locs ls C R Lh
  obtain ⟨f1, f2, f3, f4, f5, f6, f7, f8⟩ := hf
  have hM1 := hM l D H.size C.2.2.2.2.2.2.2.1
  rw [if_pos f6] at hM1
  have hts := C.2.2.2.2.2.1
  subst hst
  exact mm_call C R Lh (vx_runS (Ts := mm_B) (own := (mm_my M).cls) (bytes := mm_mc M2) (maxL := mm_mx M2) (ret := mm_mr M2) (nL := mm_mx M) (n := n) ⟨C.1, C.2.1, C.2.2.2.1, C.2.2.2.2.1, hts⟩ hM1 ⟨callB_of n hts (mm_goodB f7) rfl rfl rfl (hts _ f8) (hts _ hl) ⟨f1, f2, f3⟩ ⟨f4, f5⟩, hts _ hi⟩ ⟨mm_blind, fun U hU hW => mm_pre C R U hU hW⟩ rfl hn Lh.1 rfl (by simpa [JFrame.monitorRoom] using hcat) d ⟨hcc, hcs⟩) kr kx
end MMc
