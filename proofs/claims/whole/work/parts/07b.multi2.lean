theorem ml_upd (b i : Nat) : updV (fun j => va_rf (if j < i then some (b + j) else none)) i (.ref (b + i)) = fun j => va_rf (if j < i + 1 then some (b + j) else none) := by
  funext j
  by_cases e : j = i
  · subst e
    simp [updV, va_rf]
  · by_cases hj : j < i
    · simp [updV, e, hj, Nat.lt_succ_of_lt hj]
    · simp [updV, e, hj, show ¬ j < i + 1 by omega]
section
variable {E : CtlPost} {e : Env} {d : Bool} {acts : List Action} {U : State}
theorem ml_new {Q : Addr → Pre} {c comp : ClassId} {k : Class} {type : FieldType} {n : Nat} {init : Value} (hk : U.vm.classes[c]? = some k) (hkind : k.kind = .array comp type) (hf : fits type init = true) (hl : ¬ n > e.platform.arrayLengthLimit) (hb : ¬ n * componentBytes type > e.platform.maxHeapBytes) (h1 : U.heap.size < e.platform.maxCells) (h2 : U.slotsUsed + n ≤ e.platform.maxSlots) (hQ : ∀ acts', Q U.heap.size d acts' (U.pushCell (arrV c n (fun _ => init)))) : wp (Jvm.newArray c n init) Q E e d acts U := by
  rw [← arrV_new] at hQ
  have hfit : ∀ i v, (Array.replicate n init)[i]? = some v → U.fitsSlot c .none i v = true := by
    intro i v hv
    simp only [Array.getElem?_replicate] at hv
    split at hv
    · cases hv; simp [State.fitsSlot, State.slotType?, hk, hkind, hf]
    · cases hv
  have h3 : ¬ n > e.platform.maxSlots := by omega
  simp [Jvm.newArray, Jvm.arrayFits, hl, hk, hkind, hb, h3]
  exact ⟨h1, h2, hfit, hQ _⟩
theorem ml_make {Q : Addr → Pre} {cA cI comp : ClassId} {kA kI : Class} {n k2 : Int32} {g : JFrame} {T : State} (hkA : T.vm.classes[cA]? = some kA) (hkindA : kA.kind = .array cI (.array .int)) (hkI : T.vm.classes[cI]? = some kI) (hkindI : kI.kind = .array comp .int) (hn : ¬ n < 0) (hk : ¬ k2 < 0) (hl1 : ¬ n.toNatClampNeg > e.platform.arrayLengthLimit) (hb1 : ¬ n.toNatClampNeg * componentBytes (.array .int) > e.platform.maxHeapBytes) (hl2 : ¬ k2.toNatClampNeg > e.platform.arrayLengthLimit) (hb2 : ¬ k2.toNatClampNeg * componentBytes .int > e.platform.maxHeapBytes) (h1 : T.heap.size + (1 + n.toNatClampNeg) ≤ e.platform.maxCells) (h2 : ∀ i, i ≤ n.toNatClampNeg → (ml_U T cA cI n.toNatClampNeg k2.toNatClampNeg i).slotsUsed + (n.toNatClampNeg - i) * k2.toNatClampNeg ≤ e.platform.maxSlots) (h3 : T.slotsUsed + n.toNatClampNeg ≤ e.platform.maxSlots) (hQ : ∀ d' acts', Q T.heap.size d' acts' ((ml_U T cA cI n.toNatClampNeg k2.toNatClampNeg n.toNatClampNeg).setTop g)) : wp (Op.multianewarray.make cA [n, k2]) Q E e d acts (T.setTop g) := by
  generalize hN : n.toNatClampNeg = N at *
  generalize hK : k2.toNatClampNeg = K at *
  simp [Op.multianewarray.make, hn, hk, hkA, hkindA, hN]
  refine ml_new (U := T.setTop g) hkA hkindA rfl hl1 hb1 (by show T.heap.size < _; omega) h3 (fun acts' => ?_)
  rw [wp_map]
  refine wp_forIn_inv (fun (rest : List Nat) (V : State) => ∃ i, i ≤ N ∧ rest = List.range' i (N - i) ∧ V = (ml_U T cA cI N K i).setTop g) _ _ ⟨0, Nat.zero_le N, rfl, rfl⟩ ?_ ?_
  · rintro x rest V d' acts' Q' ⟨i, hi, hr, rfl⟩ hq
    obtain ⟨k, hNk⟩ : ∃ k, N - i = k + 1 := by
      cases hc : N - i with
      | zero => rw [hc] at hr; cases hr
      | succ k => exact ⟨k, rfl⟩
    rw [hNk, List.range'_succ] at hr
    obtain ⟨rfl, rfl⟩ := List.cons.inj hr
    simp [ml_vm, hkI, hkindI, hK]
    have hz := ml_size (T := T) (cA := cA) (cI := cI) (N := N) (K := K) x
    have hx : x < N := by omega
    refine ml_new (U := (ml_U T cA cI N K x).setTop g) (show (ml_U T cA cI N K x).vm.classes[cI]? = some kI by rw [ml_vm]; exact hkI) hkindI rfl hl2 hb2 (by show (ml_U T cA cI N K x).heap.size < _; omega) (by
      have h4 := h2 x hi
      rw [hNk, Nat.succ_mul] at h4
      show (ml_U T cA cI N K x).slotsUsed + K ≤ _
      omega) (fun acts3 => ?_)
    have ho : ((ml_U T cA cI N K x).pushCell (arrV cI K (fun _ => .int 0))).heap[T.heap.size]? = some (arrV cA N (fun j => va_rf (if j < x then some (T.heap.size + 1 + j) else none))) := by
      show (Array.push (ml_U T cA cI N K x).heap _)[T.heap.size]? = _
      rw [Array.getElem?_push, hz, if_neg (by omega)]
      exact ml_outer x
    rw [wp_map, Jvm.writeLoc, wp_write]
    refine ⟨_, ho, by simp [arrV], by simp [arrV]; exact hx, ?_, ?_⟩
    · simp [State.fitsSlot, State.slotType?, ml_vm, hkA, hkindA, arrV, fits]
    · rw [wp_pure, arrV_store]
      refine hq _ _ _ ⟨x + 1, by omega, ?_, ?_⟩
      · rw [show N - (x + 1) = k by omega]
      · rw [State.heap_setTop, hz]
        show State.setCell _ T.heap.size (arrV cA N (updV (fun j => va_rf (if j < x then some (T.heap.size + 1 + j) else none)) x (.ref (T.heap.size + 1 + x)))) = _
        rw [ml_upd (T.heap.size + 1) x]
        rfl
  · rintro V d' acts'' ⟨i, hi, hr, rfl⟩
    have hz : N - i = 0 := by
      cases hc : N - i with
      | zero => rfl
      | succ k => rw [hc, List.range'_succ] at hr; cases hr
    have hiN : i = N := by omega
    subst hiN
    exact hQ d' acts''
end
