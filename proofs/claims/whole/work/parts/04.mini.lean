/-! THE SMALL MACHINE: a heap of tables (kind, length, ints, longs, references, by address and slot), and the judgement MW: from pc, with locals L and stack S, the method ends as Post says -/
abbrev mm_H : Type := (Nat → Nat) × (Nat → Nat) × (Nat → Nat → Int32) × (Nat → Nat → Int64) × (Nat → Nat → Option Nat)
def mm_k (h : mm_H) (a : Nat) : Nat := h.1 a
def mm_n (h : mm_H) (a : Nat) : Nat := h.2.1 a
def mm_i (h : mm_H) (a k : Nat) : Int32 := h.2.2.1 a k
def mm_j (h : mm_H) (a k : Nat) : Int64 := h.2.2.2.1 a k
def mm_p (h : mm_H) (a k : Nat) : Option Nat := h.2.2.2.2 a k
def mm_u {α : Type} (f : Nat → Nat → α) (a k : Nat) (v : α) : Nat → Nat → α := fun b j => if b = a ∧ j = k then v else f b j
def mm_si (h : mm_H) (a k : Nat) (v : Int32) : mm_H := (h.1, h.2.1, mm_u h.2.2.1 a k v, h.2.2.2.1, h.2.2.2.2)
def mm_sj (h : mm_H) (a k : Nat) (v : Int64) : mm_H := (h.1, h.2.1, h.2.2.1, mm_u h.2.2.2.1 a k v, h.2.2.2.2)
def mm_sp (h : mm_H) (a k : Nat) (v : Option Nat) : mm_H := (h.1, h.2.1, h.2.2.1, h.2.2.2.1, mm_u h.2.2.2.2 a k v)
/-- kinds of fields by class and number: 0 int, 1 long, 2 reference, 3 boolean -/
def mm_fts : List (List Nat) := [[2], [2, 0], [0, 0, 0, 0, 0, 0, 3, 0, 3, 2], [2, 2], [2, 2, 2, 0, 0, 0], [0, 0, 0, 0, 3, 0, 3, 3, 0], [2, 2, 2, 2], [2, 2, 0, 0, 2, 2, 1]]
def mm_ft (ci k : Nat) : Nat := (mm_fts.getD ci []).getD k 0
def mm_val (ty : Nat) (h : mm_H) (a k : Nat) : Value := match ty with
  | 1 => .long (mm_j h a k)
  | 2 => va_rf (mm_p h a k)
  | _ => .int (mm_i h a k)
def mm_fv (h : mm_H) (ci a k : Nat) : Value := mm_val (mm_ft ci k) h a k
/-- kinds of arrays: 0 int, 1 long, 2 Loop, 3 Subscriber, 4 State, 5 int[] -/
def mm_ty : Nat → FieldType
  | 0 => .int
  | 1 => .long
  | 2 => .object "PartyLines$Loop"
  | 3 => .object "PartyLines$Subscriber"
  | 4 => .object "PartyLines$State"
  | _ => .array .int
def mm_ev (h : mm_H) (ty a k : Nat) : Value := match ty with
  | 0 => .int (mm_i h a k)
  | 1 => .long (mm_j h a k)
  | _ => va_rf (mm_p h a k)
abbrev mm_G : Type := (Nat → ClassId) × (Nat → Nat → Nat) × (Nat → ClassId)
/-- what lies at a: kind 1 to 8 an object of class kind - 1, kind 9 and on an array of kind - 9 -/
def mm_at (D : mm_G) (h : mm_H) (a : Nat) (H : Heap) : Prop :=
  (∀ ci, mm_k h a = ci + 1 → ci < 8 → ∃ r : vw_C, vwCl[ci]? = some r ∧ t_OB a (D.1 ci) r.2.2 (D.2.1 ci) H (mm_fv h ci a)) ∧
  (∀ ty, mm_k h a = ty + 9 → H[a]? = some (arrV (D.2.2 ty) (mm_n h a) (mm_ev h ty a)))
def mm_P (D : mm_G) (h : mm_H) (H : Heap) : Prop := ∀ a, mm_k h a ≠ 0 → mm_at D h a H
def mm_tys (D : mm_G) : List (ClassId × FieldType) := [(D.2.2 0, mm_ty 0), (D.2.2 1, mm_ty 1), (D.2.2 2, mm_ty 2), (D.2.2 3, mm_ty 3), (D.2.2 4, mm_ty 4), (D.2.2 5, mm_ty 5)]
def mm_K (D : mm_G) (U : State) : Prop := va_K (D.1, D.2.1) vwCl (mm_tys D) U
theorem mm_K.moved {D : mm_G} {u U : State} (hvm : u.vm.Alike U.vm) (h : mm_K D u) : mm_K D U := va_K.moved hvm h
/-- the words that every method takes: all good ones -/
def mm_B : List Cond := lw_tbl.filter goodWord
/-- words that are kept by laws of their own -/
def mm_isn : Cond → Bool
  | .castable .. => true
  | .declares _ => true
  | .methodLinkNest .. => true
  | _ => false
def mm_nw : List Cond := lw_tbl.filter mm_isn
/-- the strings of the throws -/
def mm_str : List (Nat × String) := [(45, "there are 5 loops"), (298, "no such loop"), (72, "position or code is out of range"), (82, "no room, or the code is taken"), (300, "no such subscriber"), (96, "what or value is out of range"), (102, "the code is taken, or codes of the loop are rung"), (120, "what is out of range"), (129, "the receiver is off the hook"), (139, "the receiver is on the hook"), (161, "it is not the first party of a seized loop"), (167, "n is out of range"), (175, "limit is out of range"), (191, "code is out of range"), (213, "codes of the loop are rung"), (220, "no such span"), (226, "the loop has a fault"), (235, "the loop has no fault"), (248, "risk is out of range"), (253, "span is out of range"), (302, "not 1 <= from <= to <= 12"), (276, "no state is saved")]
def mm_bl (j : Nat) : Int32 := ([1, 2, 3, 4, 5, 7, 6, 8, 9, 11, 10, 12, 13, 14] : List Int32).getD j 0
/-- pairs of exception classes of which the first isn't the second -/
def mm_nc : List (String × String) := [("java/lang/IllegalArgumentException", "java/lang/IndexOutOfBoundsException"), ("java/lang/IllegalStateException", "java/lang/IndexOutOfBoundsException"), ("java/lang/IllegalStateException", "java/lang/IllegalArgumentException")]
/-- what stands around: statics that nobody writes, strings, classes of arrays -/
def mm_Am (A : Nat → Prop) (U : State) (H : Heap) : Prop :=
  vx_Zq Bundle.tN "UNASSIGNED_STACK" Bundle.steD A U H ∧ vx_Zq Bundle.tN "SUPPRESSED_SENTINEL" Bundle.listD A U H ∧ (∀ q ∈ mm_str, ∃ a, vk_R RX7 q.1 q.2 a U) ∧
  (∃ tb, va_Z RX0 "BY_LENGTH" "[I" (.ref tb) A U H ∧ va_T .int tb 14 (fun j => .int (mm_bl j)) A U H) ∧
  va_AO "PartyLines$Loop" U ∧ va_AO "PartyLines$Subscriber" U ∧ va_AO "PartyLines$State" U ∧ (Cond.arrayOver (.array .int)).before #[] U = true ∧ (∀ q ∈ mm_nc, va_Nc q.1 q.2 U) ∧ (∀ w ∈ mm_nw, va_Nw w U)
abbrev mm_M : Type := MethodName × ByteArray × Nat × Option FieldType × Room × List (Nat × Nat × Nat × Nat) × Option (Nat × Nat × (Nat → Int32))
abbrev mm_my (M : mm_M) : MethodName := M.1
abbrev mm_mc (M : mm_M) : ByteArray := M.2.1
abbrev mm_mx (M : mm_M) : Nat := M.2.2.1
abbrev mm_mr (M : mm_M) : Option FieldType := M.2.2.2.1
abbrev mm_mo (M : mm_M) : Room := M.2.2.2.2.1
abbrev mm_mh (M : mm_M) : List (Nat × Nat × Nat × Nat) := M.2.2.2.2.2.1
abbrev mm_ms (M : mm_M) : Option (Nat × Nat × (Nat → Int32)) := M.2.2.2.2.2.2
abbrev mm_Q : Type := (Option Value ⊕ String) → mm_H → Prop
def mm_A (h : mm_H) (sz : Nat) : Nat → Prop := fun q => mm_k h q ≠ 0 ∨ sz ≤ q
def mm_W (D : mm_G) (A : Nat → Prop) (h : mm_H) (t : State) : Prop := mm_P D h t.heap ∧ mm_K D t ∧ ∀ a, mm_k h a ≠ 0 → A a
def mm_Qc (D : mm_G) (A : Nat → Prop) (Post : mm_Q) : Array Value → State → Outcome → State → Prop := fun _ st oc t => (∃ (v : Option Value) (h : mm_H), oc = .returned v ∧ Post (.inl v) h ∧ mm_W D A h t) ∧ va_F A st t
def mm_XC (D : mm_G) (A : Nat → Prop) (Post : mm_Q) : String → State → State → Prop := fun E st t => (∃ h : mm_H, Post (.inr E) h ∧ mm_W D A h t) ∧ va_F A st t
/-- what holds all through a method -/
def mm_C (M : mm_M) (l : Launch) (p : Program) (s : State) (m : MethodId) (args : Array Value) (meth : Method) (c : Code) (D : mm_G) (A : Nat → Prop) : Prop :=
  p.tables.exec = Jvm.exec ∧ c.code = mm_mc M ∧ meth.sig.returnType = mm_mr M ∧ c.maxLocals = mm_mx M ∧ s.vm.findClass (mm_my M).cls = some m.cls ∧ (∀ w ∈ mm_B, w.before args s = true) ∧ meth.locks = false ∧ l.stackTraces = false ∧ mm_K D s ∧ mm_Am A s s.heap ∧ (∀ q, s.heap.size ≤ q → A q) ∧ c.exceptionTable.toList = tableOf (mm_mh M) ∧ meth.name = (mm_my M).name ∧ (∀ q, mm_ms M = some q → va_T .int q.1 q.2.1 (fun j => .int (q.2.2 j)) A s s.heap)
/-- what a heap holds in the midst of a method -/
def mm_R (D : mm_G) (A : Nat → Prop) (h : mm_H) (s : State) (H : Heap) (locs : List Loc) : Prop := mm_P D h H ∧ (∀ a, mm_k h a ≠ 0 → A a) ∧ va_S A s.heap H locs
def mm_L (ls : Array Slot) (n : Nat) (L : List (Option Value)) : Prop := ls.size = n ∧ lv_wf ls ∧ ∀ (i : Nat) (v : Value), L[i]? = some (some v) → ls[i]? = some (.val v)
abbrev mm_E (M : mm_M) (below : List Frame) (D : mm_G) (A : Nat → Prop) (Post : mm_Q) (args : Array Value) (s : State) : State → Prop := vx_MQ below (mm_Qc D A Post) (mm_XC D A Post) args s (mm_mo M).cells (mm_mo M).slots A
def MW (M : mm_M) (pc : Nat) (L : List (Option Value)) (S : List Value) (h : mm_H) (cc cs : Nat) (Post : mm_Q) : Prop :=
  ∀ (l : Launch) (p : Program) (e : Env) (s : State) (m : MethodId) (args : Array Value) (below : List Frame) (meth : Method) (c : Code) (D : mm_G) (A : Nat → Prop) (H : Heap) (locs : List Loc) (ls : Array Slot),
    mm_C M l p s m args meth c D A → mm_R D A h s H locs → mm_L ls (mm_mx M) L → W p l e (mm_mo M) s m args below meth c H locs cc cs (mm_E M below D A Post args s) (F0 m pc ls S)
/-- a method's contract at given arguments and a given heap -/
def mm_Met (M : mm_M) (av : List Value) (h : mm_H) (Post : mm_Q) : Prop := ∀ (l : Launch) (D : mm_G) (sz : Nat), l.stackTraces = false →
  vx_Met l (mm_my M) ((if mm_mh M = [] then Cond.code (mm_my M) (mm_mc M) (mm_mx M) (mm_mr M) else Cond.codeWith (mm_my M) (mm_mc M) (mm_mx M) (mm_mr M) (mm_mh M)) :: mm_B) (mm_mo M)
    (va_Pc av (fun U => U.heap.size = sz ∧ mm_P D h U.heap ∧ mm_K D U ∧ mm_Am (mm_A h sz) U U.heap)) (mm_Qc D (mm_A h sz) Post) (mm_XC D (mm_A h sz) Post) (mm_mo M).cells (mm_mo M).slots (mm_A h sz)
section MMrows
variable {M : mm_M} {pc : Nat} {L : List (Option Value)} {S : List Value} {h : mm_H} {cc cs : Nat} {Post : mm_Q}
theorem mm_post {Post2 : mm_Q} (k : MW M pc L S h cc cs Post2) (hp : ∀ o h2, Post2 o h2 → Post o h2) : MW M pc L S h cc cs Post := by
  intro l p e s m args below meth c D A H locs ls C R Lh T hT X
  obtain ⟨t, a1, o, b1, b2, b3⟩ := k l p e s m args below meth c D A H locs ls C R Lh T hT X
  refine ⟨t, a1, o, b1, b2, ?_⟩
  rcases b3 with ⟨⟨⟨v, h2, q1, q2, q3⟩, q4⟩, q5⟩ | ⟨q, e1, E, ce, LL, ⟨⟨h2, q2, q3⟩, q4⟩, q5⟩
  · exact Or.inl ⟨⟨⟨v, h2, q1, hp _ _ q2, q3⟩, q4⟩, q5⟩
  · exact Or.inr ⟨q, e1, E, ce, LL, ⟨⟨h2, hp _ _ q2, q3⟩, q4⟩, q5⟩
theorem mm_wide {cc2 cs2 : Nat} (k : MW M pc L S h cc2 cs2 Post) (h1 : cc ≤ cc2) (h2 : cs ≤ cs2) : MW M pc L S h cc cs Post := by
  intro l p e s m args below meth c D A H locs ls C R Lh
  exact W.widen h1 h2 (k l p e s m args below meth c D A H locs ls C R Lh)
theorem mm_locs {L2 : List (Option Value)} (k : MW M pc L2 S h cc cs Post) (hL : ∀ (i : Nat) (v : Value), L2[i]? = some (some v) → L[i]? = some (some v)) : MW M pc L S h cc cs Post := by
  intro l p e s m args below meth c D A H locs ls C R Lh
  exact k l p e s m args below meth c D A H locs ls C R ⟨Lh.1, Lh.2.1, fun i v hv => Lh.2.2 i v (hL i v hv)⟩

theorem mw_iconst {n : Int} {v : Int32} (hv : Int32.ofInt n = v) (d : decode (mm_mc M) pc = .ok (.iconst n, 1)) (k : MW M (pc + 1) L (.int v :: S) h cc cs Post) : MW M pc L (S) h cc cs Post := by
  intro l p e s m args below meth c D A H locs ls C R Lh
  exact lv_iconst C.1 C.2.1 d hv (k l p e s m args below meth c D A H locs ls C R Lh)
theorem mw_bipush {n : Int} {v : Int32} (hv : (Int8.ofInt n).toInt32 = v) (d : decode (mm_mc M) pc = .ok (.bipush n, 2)) (k : MW M (pc + 2) L (.int v :: S) h cc cs Post) : MW M pc L (S) h cc cs Post := by
  intro l p e s m args below meth c D A H locs ls C R Lh
  exact lv_bipush C.1 C.2.1 d hv (k l p e s m args below meth c D A H locs ls C R Lh)
theorem mw_sipush {n : Int} {v : Int32} (hv : (Int16.ofInt n).toInt32 = v) (d : decode (mm_mc M) pc = .ok (.sipush n, 3)) (k : MW M (pc + 3) L (.int v :: S) h cc cs Post) : MW M pc L (S) h cc cs Post := by
  intro l p e s m args below meth c D A H locs ls C R Lh
  exact lv_sipush C.1 C.2.1 d hv (k l p e s m args below meth c D A H locs ls C R Lh)
theorem mw_lconst {n : Fin 2} {v : Int64} (hv : Int64.ofNat (n : Nat) = v) (d : decode (mm_mc M) pc = .ok (.lconst n, 1)) (k : MW M (pc + 1) L (.long v :: S) h cc cs Post) : MW M pc L (S) h cc cs Post := by
  intro l p e s m args below meth c D A H locs ls C R Lh
  exact lv_lconst C.1 C.2.1 d hv (k l p e s m args below meth c D A H locs ls C R Lh)
theorem mw_ldc2 {idx : Nat} {v : Int64} (hw : Cond.constantLong (mm_my M).cls idx v ∈ mm_B) (d : decode (mm_mc M) pc = .ok (.ldc2_w idx, 3)) (k : MW M (pc + 3) L (.long v :: S) h cc cs Post) : MW M pc L (S) h cc cs Post := by
  intro l p e s m args below meth c D A H locs ls C R Lh
  exact lv_ldc2 C.1 C.2.1 C.2.2.2.2.1 (C.2.2.2.2.2.1 _ hw) d (k l p e s m args below meth c D A H locs ls C R Lh)
theorem mw_iload_n {i : Fin 4} {x : Int32} (hl : L[(i : Nat)]? = some (some (.int x))) (d : decode (mm_mc M) pc = .ok (.iload_n i, 1)) (k : MW M (pc + 1) L (.int x :: S) h cc cs Post) : MW M pc L (S) h cc cs Post := by
  intro l p e s m args below meth c D A H locs ls C R Lh
  exact lv_iload_n C.1 C.2.1 d rfl (Lh.2.2 _ _ hl) (k l p e s m args below meth c D A H locs ls C R Lh)
theorem mw_iload {i : Nat} {x : Int32} (hl : L[i]? = some (some (.int x))) (d : decode (mm_mc M) pc = .ok (.iload i, 2)) (k : MW M (pc + 2) L (.int x :: S) h cc cs Post) : MW M pc L (S) h cc cs Post := by
  intro l p e s m args below meth c D A H locs ls C R Lh
  exact lv_iload C.1 C.2.1 d (Lh.2.2 _ _ hl) (k l p e s m args below meth c D A H locs ls C R Lh)
theorem mw_lload_n {i : Fin 4} {x : Int64} (hl : L[(i : Nat)]? = some (some (.long x))) (d : decode (mm_mc M) pc = .ok (.lload_n i, 1)) (k : MW M (pc + 1) L (.long x :: S) h cc cs Post) : MW M pc L (S) h cc cs Post := by
  intro l p e s m args below meth c D A H locs ls C R Lh
  exact lv_lload_n C.1 C.2.1 d rfl (Lh.2.2 _ _ hl) (k l p e s m args below meth c D A H locs ls C R Lh)
theorem mw_lload {i : Nat} {x : Int64} (hl : L[i]? = some (some (.long x))) (d : decode (mm_mc M) pc = .ok (.lload i, 2)) (k : MW M (pc + 2) L (.long x :: S) h cc cs Post) : MW M pc L (S) h cc cs Post := by
  intro l p e s m args below meth c D A H locs ls C R Lh
  exact lv_lload C.1 C.2.1 d (Lh.2.2 _ _ hl) (k l p e s m args below meth c D A H locs ls C R Lh)
theorem mw_aload_n {i : Fin 4} {x : Nat} (hl : L[(i : Nat)]? = some (some (.ref x))) (d : decode (mm_mc M) pc = .ok (.aload_n i, 1)) (k : MW M (pc + 1) L (.ref x :: S) h cc cs Post) : MW M pc L (S) h cc cs Post := by
  intro l p e s m args below meth c D A H locs ls C R Lh
  exact lv_aload_n C.1 C.2.1 d rfl (Lh.2.2 _ _ hl) (k l p e s m args below meth c D A H locs ls C R Lh)
theorem mw_aload {i : Nat} {x : Nat} (hl : L[i]? = some (some (.ref x))) (d : decode (mm_mc M) pc = .ok (.aload i, 2)) (k : MW M (pc + 2) L (.ref x :: S) h cc cs Post) : MW M pc L (S) h cc cs Post := by
  intro l p e s m args below meth c D A H locs ls C R Lh
  exact lv_aload C.1 C.2.1 d (Lh.2.2 _ _ hl) (k l p e s m args below meth c D A H locs ls C R Lh)
theorem mw_aload_nN {i : Fin 4} (hl : L[(i : Nat)]? = some (some .null)) (d : decode (mm_mc M) pc = .ok (.aload_n i, 1)) (k : MW M (pc + 1) L (.null :: S) h cc cs Post) : MW M pc L (S) h cc cs Post := by
  intro l p e s m args below meth c D A H locs ls C R Lh
  exact lv_aload_nN C.1 C.2.1 d rfl (Lh.2.2 _ _ hl) (k l p e s m args below meth c D A H locs ls C R Lh)
theorem mw_aloadN {i : Nat} (hl : L[i]? = some (some .null)) (d : decode (mm_mc M) pc = .ok (.aload i, 2)) (k : MW M (pc + 2) L (.null :: S) h cc cs Post) : MW M pc L (S) h cc cs Post := by
  intro l p e s m args below meth c D A H locs ls C R Lh
  exact lv_aloadN C.1 C.2.1 d (Lh.2.2 _ _ hl) (k l p e s m args below meth c D A H locs ls C R Lh)
theorem mw_iadd {x y : Int32} (d : decode (mm_mc M) pc = .ok (.iadd, 1)) (k : MW M (pc + 1) L (.int (x + y) :: S) h cc cs Post) : MW M pc L (.int y :: .int x :: S) h cc cs Post := by
  intro l p e s m args below meth c D A H locs ls C R Lh
  exact lv_iadd C.1 C.2.1 d (k l p e s m args below meth c D A H locs ls C R Lh)
theorem mw_isub {x y : Int32} (d : decode (mm_mc M) pc = .ok (.isub, 1)) (k : MW M (pc + 1) L (.int (x - y) :: S) h cc cs Post) : MW M pc L (.int y :: .int x :: S) h cc cs Post := by
  intro l p e s m args below meth c D A H locs ls C R Lh
  exact lv_isub C.1 C.2.1 d (k l p e s m args below meth c D A H locs ls C R Lh)
theorem mw_imul {x y : Int32} (d : decode (mm_mc M) pc = .ok (.imul, 1)) (k : MW M (pc + 1) L (.int (x * y) :: S) h cc cs Post) : MW M pc L (.int y :: .int x :: S) h cc cs Post := by
  intro l p e s m args below meth c D A H locs ls C R Lh
  exact lv_imul C.1 C.2.1 d (k l p e s m args below meth c D A H locs ls C R Lh)
theorem mw_iand {x y : Int32} (d : decode (mm_mc M) pc = .ok (.iand, 1)) (k : MW M (pc + 1) L (.int (x &&& y) :: S) h cc cs Post) : MW M pc L (.int y :: .int x :: S) h cc cs Post := by
  intro l p e s m args below meth c D A H locs ls C R Lh
  exact lv_iand C.1 C.2.1 d (k l p e s m args below meth c D A H locs ls C R Lh)
theorem mw_ior {x y : Int32} (d : decode (mm_mc M) pc = .ok (.ior, 1)) (k : MW M (pc + 1) L (.int (x ||| y) :: S) h cc cs Post) : MW M pc L (.int y :: .int x :: S) h cc cs Post := by
  intro l p e s m args below meth c D A H locs ls C R Lh
  exact lv_ior C.1 C.2.1 d (k l p e s m args below meth c D A H locs ls C R Lh)
theorem mw_ladd {x y : Int64} (d : decode (mm_mc M) pc = .ok (.ladd, 1)) (k : MW M (pc + 1) L (.long (x + y) :: S) h cc cs Post) : MW M pc L (.long y :: .long x :: S) h cc cs Post := by
  intro l p e s m args below meth c D A H locs ls C R Lh
  exact lv_ladd C.1 C.2.1 d (k l p e s m args below meth c D A H locs ls C R Lh)
theorem mw_lmul {x y : Int64} (d : decode (mm_mc M) pc = .ok (.lmul, 1)) (k : MW M (pc + 1) L (.long (x * y) :: S) h cc cs Post) : MW M pc L (.long y :: .long x :: S) h cc cs Post := by
  intro l p e s m args below meth c D A H locs ls C R Lh
  exact lv_lmul C.1 C.2.1 d (k l p e s m args below meth c D A H locs ls C R Lh)
theorem mw_i2l {x : Int32} (d : decode (mm_mc M) pc = .ok (.i2l, 1)) (k : MW M (pc + 1) L (.long x.toInt64 :: S) h cc cs Post) : MW M pc L (.int x :: S) h cc cs Post := by
  intro l p e s m args below meth c D A H locs ls C R Lh
  exact lv_i2l C.1 C.2.1 d rfl (k l p e s m args below meth c D A H locs ls C R Lh)
theorem mw_dup {v : Value} (hv : v.category = 1) (d : decode (mm_mc M) pc = .ok (.dup, 1)) (k : MW M (pc + 1) L (v :: v :: S) h cc cs Post) : MW M pc L (v :: S) h cc cs Post := by
  intro l p e s m args below meth c D A H locs ls C R Lh
  exact lv_dup C.1 C.2.1 d hv (k l p e s m args below meth c D A H locs ls C R Lh)
theorem mw_dup2 {v w : Value} (hv : v.category = 1) (hw : w.category = 1) (d : decode (mm_mc M) pc = .ok (.dup2, 1)) (k : MW M (pc + 1) L (v :: w :: v :: w :: S) h cc cs Post) : MW M pc L (v :: w :: S) h cc cs Post := by
  intro l p e s m args below meth c D A H locs ls C R Lh
  exact lv_dup2_11 C.1 C.2.1 d hv hw (k l p e s m args below meth c D A H locs ls C R Lh)
theorem mw_null  (d : decode (mm_mc M) pc = .ok (.aconst_null, 1)) (k : MW M (pc + 1) L (.null :: S) h cc cs Post) : MW M pc L (S) h cc cs Post := by
  intro l p e s m args below meth c D A H locs ls C R Lh
  exact lv_null C.1 C.2.1 d (k l p e s m args below meth c D A H locs ls C R Lh)
theorem mw_ifnull {x : Nat} {off : Int} (d : decode (mm_mc M) pc = .ok (.ifnull off, 3)) (k : MW M (pc + 3) L (S) h cc cs Post) : MW M pc L (.ref x :: S) h cc cs Post := by
  intro l p e s m args below meth c D A H locs ls C R Lh
  exact lv_ifnull C.1 C.2.1 d (k l p e s m args below meth c D A H locs ls C R Lh)
theorem mw_ifnonnullN {off : Int} (d : decode (mm_mc M) pc = .ok (.ifnonnull off, 3)) (k : MW M (pc + 3) L (S) h cc cs Post) : MW M pc L (.null :: S) h cc cs Post := by
  intro l p e s m args below meth c D A H locs ls C R Lh
  exact lv_ifnonnullN C.1 C.2.1 d (k l p e s m args below meth c D A H locs ls C R Lh)
theorem mw_ifnonnull {x : Nat} {off : Int} {tgt : Nat} (ht : (pc : Int) + off = (tgt : Int)) (d : decode (mm_mc M) pc = .ok (.ifnonnull off, 3)) (k : MW M (tgt) L (S) h cc cs Post) : MW M pc L (.ref x :: S) h cc cs Post := by
  intro l p e s m args below meth c D A H locs ls C R Lh
  exact lv_ifnonnull C.1 C.2.1 d ht (k l p e s m args below meth c D A H locs ls C R Lh)
theorem mw_ifnullN {off : Int} {tgt : Nat} (ht : (pc : Int) + off = (tgt : Int)) (d : decode (mm_mc M) pc = .ok (.ifnull off, 3)) (k : MW M (tgt) L (S) h cc cs Post) : MW M pc L (.null :: S) h cc cs Post := by
  intro l p e s m args below meth c D A H locs ls C R Lh
  exact lv_ifnullN C.1 C.2.1 d ht (k l p e s m args below meth c D A H locs ls C R Lh)
theorem mw_goto {off : Int} {tgt : Nat} (ht : (pc : Int) + off = (tgt : Int)) (d : decode (mm_mc M) pc = .ok (.goto off, 3)) (k : MW M (tgt) L (S) h cc cs Post) : MW M pc L (S) h cc cs Post := by
  intro l p e s m args below meth c D A H locs ls C R Lh
  exact lv_goto C.1 C.2.1 d ht (k l p e s m args below meth c D A H locs ls C R Lh)
end MMrows
