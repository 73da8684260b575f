/-! the walk of the law's body, from its entry -/
def R_law : String := "PartyLinesLaw"
def lw_P (b : Addr) (xs : List Int32) (args : Array Value) (s : State) : Prop := args = #[.ref b] ∧ s.IntsAt b xs ∧ xs.length ≤ 2048 ∧ (Jvm.Cond.and given_1 narrow_1).before args s = true
def lw_Q (_ : Array Value) (s : State) (o : Outcome) (t : State) : Prop := o = .returned (some (.int 1)) ∧ Framed s o t [] 601024 7293034
def lw_Z (below : List Frame) (a : Array Value) (s : State) : State → Prop := fun t => ∃ o, t.status = .running ∧ Ended t below o ∧ lw_Q a s o t
/-- what holds at the law's entry; at the end: no handlers, the method's name -/
def lw_At (p : Program) (s : State) (m : MethodId) (meth : Method) (c : Code) (b L : Nat) (xs : Nat → Int32) : Prop :=
  p.tables.exec = Jvm.exec ∧ c.code = code ∧ meth.sig.returnType = ret ∧ c.maxLocals = 7 ∧ s.vm.findClass R_law = some m.cls ∧ (∀ w ∈ lw_tbl, w.before #[Value.ref b] s = true) ∧ va_X b L xs s s.heap ∧ b < s.heap.size ∧ meth.locks = false ∧ (Jvm.Cond.and given_1 narrow_1).before #[Value.ref b] s = true ∧ c.exceptionTable.toList = [] ∧ meth.name = "law"
theorem va_X_T {b L : Nat} {xs : Nat → Int32} {s : State} {A : Nat → Prop} (h : va_X b L xs s s.heap) (hA : ¬ A b) : va_T .int b L (fun j => .int (xs j)) A s s.heap := by
  obtain ⟨scr, h1, h2, h3, h4, h5⟩ := h
  exact ⟨scr, h1, h2, h3, by rw [h4]; exact Nat.le_refl L, by rw [h4], h5, hA⟩
theorem no_traces {l : Launch} (h : l.flags = flags0) : l.stackTraces = false := by
  unfold Launch.stackTraces
  rw [h]
  decide +kernel
theorem g0_out {sz a : Nat} (h : a < sz) : ¬ mm_A g0 sz a := fun z => by
  rcases z with z | z
  · exact z rfl
  · omega
set_option maxRecDepth 100000 in
set_option maxHeartbeats 4000000 in
theorem whole_start {p : Program} {e : Env} {s : State} {m : MethodId} {below : List Frame} {meth : Method} {c : Code} (l : Launch) (hflags : l.flags = flags0) {b L : Nat} {xs : Nat → Int32} (hL : L ≤ 2048) (C0 : lw_At p s m meth c b L xs) : W p l e room_1 s m #[Value.ref b] below meth c s.heap [] 0 0 (lw_Z below #[Value.ref b] s) (entryFrame m ([Value.ref b] : List Value).toArray 7) := by
  obtain ⟨hx, hb, hr, hml, hown, hts, hX, hbl, hlocks, hgv, htab, hname⟩ := C0
  obtain ⟨D, hK⟩ := K_0 hts
  have hAm : mm_Am (mm_A g0 s.heap.size) s s.heap := Am_0 hts (flat_of_before _ hgv) (fun a h => g0_out h)
  have he := lv_entry ([.ref b]) (n := 7) (Nat.le_of_ble_eq_true rfl)
  rw [lg_entry_eq]
  have hC : mm_C (ML_law b L xs) l p s m #[Value.ref b] meth c D (mm_A g0 s.heap.size) := ⟨hx, hb, hr, hml, hown, fun w hw => hts w (List.mem_filter.mp hw).1, hlocks, no_traces hflags, hK, hAm, fun q hq => Or.inr hq, htab, hname, fun q hq => by cases hq; exact va_X_T hX (g0_out hbl)⟩
  have hR : mm_R D (mm_A g0 s.heap.size) g0 s s.heap [] := ⟨fun a ha => absurd rfl ha, fun a ha => absurd rfl ha, va_S.rf⟩
  have M := law_start (b := b) (L := L) (xs := xs) hL l p e s m #[Value.ref b] below meth c D (mm_A g0 s.heap.size) s.heap [] _ hC hR ⟨he.1, he.2.1, fun i v hv => by
    have h2 := mm_ent_in [.ref b] 7 0 i v hv
    rw [Nat.zero_add] at h2
    exact he.2.2 (i, v) h2⟩
  intro T hT X
  obtain ⟨t, a1, o, b1, b2, b3⟩ := M T hT X
  refine ⟨t, a1, o, b1, b2, ?_⟩
  rcases b3 with ⟨⟨⟨v, h2, q1, q2, q3⟩, q4⟩, L9, fe, fl⟩ | ⟨q, e1, E, ce, LL, ⟨⟨h2, q2, q3⟩, q4⟩, q5⟩
  · have hv : v = some (.int 1) := Sum.inl.inj q2
    subst hv
    exact ⟨q1, ⟨_, q1⟩, fe.2.1, fe.2.2.weaken (fun x hx hlt => absurd (fl x hx) (g0_out hlt)) (Nat.le_refl _) (Nat.le_refl _)⟩
  · cases q2
