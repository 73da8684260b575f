/-! a row of rows of ints, made by one instruction: the machine's own step -/
/-- the state when the outer row stands and i inner rows are laid in -/
def ml_U (T : State) (cA cI : ClassId) (N K : Nat) : Nat → State
  | 0 => T.pushCell (arrV cA N (fun _ => .null))
  | i + 1 => ((ml_U T cA cI N K i).pushCell (arrV cI K (fun _ => .int 0))).setCell T.heap.size (arrV cA N (fun j => va_rf (if j < i + 1 then some (T.heap.size + 1 + j) else none)))
section
variable {T : State} {cA cI : ClassId} {N K : Nat}
theorem ml_vm : ∀ i, (ml_U T cA cI N K i).vm = T.vm
  | 0 => rfl
  | i + 1 => ml_vm i
theorem ml_top : ∀ i, (ml_U T cA cI N K i).topJava? = T.topJava?
  | 0 => rfl
  | i + 1 => ml_top i
theorem ml_size : ∀ i, (ml_U T cA cI N K i).heap.size = T.heap.size + 1 + i
  | 0 => by simp [ml_U]
  | i + 1 => by
    have := ml_size i
    simp [ml_U, this]
    omega
theorem ml_outer : ∀ i, (ml_U T cA cI N K i).heap[T.heap.size]? = some (arrV cA N (fun j => va_rf (if j < i then some (T.heap.size + 1 + j) else none)))
  | 0 => by simp [ml_U, va_rf]
  | i + 1 => by
    have := ml_size (T := T) (cA := cA) (cI := cI) (N := N) (K := K) i
    refine heapAt_setCell_self _ ?_
    show T.heap.size < (Array.push (ml_U T cA cI N K i).heap _).size
    rw [Array.size_push, this]
    omega
theorem ml_old {x : Nat} (hx : x < T.heap.size) : ∀ i, (ml_U T cA cI N K i).heap[x]? = T.heap[x]?
  | 0 => by
    show (Array.push T.heap _)[x]? = _
    rw [Array.getElem?_push, if_neg (by omega)]
  | i + 1 => by
    have h1 := ml_size (T := T) (cA := cA) (cI := cI) (N := N) (K := K) i
    refine (heapAt_setCell_ne _ (show T.heap.size ≠ x by omega)).trans ?_
    show (Array.push (ml_U T cA cI N K i).heap _)[x]? = _
    rw [Array.getElem?_push, h1, if_neg (by omega)]
    exact ml_old hx i
theorem ml_row {j : Nat} : ∀ i, j < i → (ml_U T cA cI N K i).heap[T.heap.size + 1 + j]? = some (arrV cI K (fun _ => .int 0))
  | 0, h => absurd h (by omega)
  | i + 1, h => by
    have h1 := ml_size (T := T) (cA := cA) (cI := cI) (N := N) (K := K) i
    refine (heapAt_setCell_ne _ (show T.heap.size ≠ T.heap.size + 1 + j by omega)).trans ?_
    show (Array.push (ml_U T cA cI N K i).heap _)[T.heap.size + 1 + j]? = _
    rw [Array.getElem?_push, h1]
    by_cases e : j = i
    · rw [if_pos (by omega)]
    · rw [if_neg (by omega)]
      exact ml_row i (by omega)
end
section
variable {p : Program} {l : Launch} {e : Env} {R : Room} {s : State} {m : MethodId} {args : Array Value} {below : List Frame} {meth : Method} {c : Code} {T : State} {locs : List Loc} {cc cs : Nat} {cA cI : ClassId} {N K : Nat}
/-- it stands there as it stood, but for the new cells -/
theorem ml_stand (X : Stand p l e R s m args below meth c T locs cc cs) : ∀ i, Stand p l e R s m args below meth c (ml_U T cA cI N K i) locs (cc + (1 + i)) (cs + (N + i * K))
  | 0 => by
    have h := X.pushed (arrV cA N (fun _ => .null))
    have e1 : (arrV cA N (fun _ => .null)).slots.size = N := by simp [arrV]
    rw [e1] at h
    simpa [ml_U] using h
  | i + 1 => by
    have h := (ml_stand X i).pushed (arrV cI K (fun _ => .int 0))
    have e1 : (arrV cI K (fun _ => Value.int 0)).slots.size = K := by simp [arrV]
    rw [e1] at h
    have hsz := ml_size (T := T) (cA := cA) (cI := cI) (N := N) (K := K) i
    have ho : ((ml_U T cA cI N K i).pushCell (arrV cI K (fun _ => .int 0))).heap[T.heap.size]? = some (arrV cA N (fun j => va_rf (if j < i then some (T.heap.size + 1 + j) else none))) := by
      show (Array.push (ml_U T cA cI N K i).heap _)[T.heap.size]? = _
      rw [Array.getElem?_push, hsz, if_neg (by omega)]
      exact ml_outer i
    have h2 := h.stored ho i (.ref (T.heap.size + 1 + i))
    rw [arrV_store] at h2
    have e2 : updV (fun j => va_rf (if j < i then some (T.heap.size + 1 + j) else none)) i (.ref (T.heap.size + 1 + i)) = fun j => va_rf (if j < i + 1 then some (T.heap.size + 1 + j) else none) := by
      funext j
      by_cases e : j = i
      · subst e
        simp [updV, va_rf]
      · by_cases hj : j < i
        · simp [updV, e, hj, Nat.lt_succ_of_lt hj]
        · simp [updV, e, hj, show ¬ j < i + 1 by omega]
    rw [e2] at h2
    have h3 := Stand.forget (locs := locs) h2 (fun y hy => by
      rw [List.mem_singleton] at hy
      subst hy
      exact X.same.2.1)
    have e3 : cc + (1 + i) + 1 = cc + (1 + (i + 1)) := by omega
    have e4 : cs + (N + i * K) + K = cs + (N + (i + 1) * K) := by rw [Nat.succ_mul]; omega
    rw [e3, e4] at h3
    exact h3
end
