section MMh
theorem mm_lt {D : mm_G} {h : mm_H} {H : Heap} (hP : mm_P D h H) {a : Nat} (ha : mm_k h a ≠ 0) : a < H.size := by
  obtain ⟨h1, h2⟩ := hP a ha
  by_cases h9 : mm_k h a < 9
  · obtain ⟨r, -, cell, hc, -⟩ := h1 (mm_k h a - 1) (by omega) (by omega)
    exact (Array.getElem?_eq_some_iff.mp hc).1
  · exact (Array.getElem?_eq_some_iff.mp (h2 (mm_k h a - 9) (by omega))).1
theorem mm_P.kept {D : mm_G} {h : mm_H} {H H1 : Heap} (hP : mm_P D h H) (hq : ∀ a : Nat, a < H.size → mm_k h a ≠ 0 → H1[a]? = H[a]?) : mm_P D h H1 := by
  intro a ha
  have he := hq a (mm_lt hP ha) ha
  obtain ⟨h1, h2⟩ := hP a ha
  refine ⟨fun ci hc hl => ?_, fun ty ht => ?_⟩
  · obtain ⟨r, hr, ho⟩ := h1 ci hc hl
    exact ⟨r, hr, ho.kept he⟩
  · rw [he]; exact h2 ty ht
/-- a heap that differs at a alone -/
theorem mm_put {D : mm_G} {h h2 : mm_H} {H H2 : Heap} {a : Nat} (hP : mm_P D h H) (hk : ∀ b, mm_k h2 b = mm_k h b) (hn : ∀ b, mm_n h2 b = mm_n h b) (hf : ∀ b, b ≠ a → ∀ ci, mm_fv h2 ci b = mm_fv h ci b) (he : ∀ b, b ≠ a → ∀ ty, mm_ev h2 ty b = mm_ev h ty b) (hq : ∀ q : Nat, q ≠ a → H2[q]? = H[q]?) (ha : mm_at D h2 a H2) : mm_P D h2 H2 := by
  intro b hb
  by_cases hba : b = a
  · rw [hba]; exact ha
  · rw [hk b] at hb
    obtain ⟨h1, h3⟩ := hP b hb
    refine ⟨fun ci hci hlt => ?_, fun ty hty => ?_⟩
    · rw [hk b] at hci
      obtain ⟨r, hr, ho⟩ := h1 ci hci hlt
      refine ⟨r, hr, ?_⟩
      rw [hf b hba ci]
      exact ho.kept (hq b hba)
    · rw [hk b] at hty
      rw [he b hba ty, hn b, hq b hba]
      exact h3 ty hty
theorem mm_k_si (h : mm_H) (a k : Nat) (v : Int32) (b : Nat) : mm_k (mm_si h a k v) b = mm_k h b := rfl
theorem mm_k_sj (h : mm_H) (a k : Nat) (v : Int64) (b : Nat) : mm_k (mm_sj h a k v) b = mm_k h b := rfl
theorem mm_k_sp (h : mm_H) (a k : Nat) (v : Option Nat) (b : Nat) : mm_k (mm_sp h a k v) b = mm_k h b := rfl
theorem mm_n_si (h : mm_H) (a k : Nat) (v : Int32) (b : Nat) : mm_n (mm_si h a k v) b = mm_n h b := rfl
theorem mm_n_sj (h : mm_H) (a k : Nat) (v : Int64) (b : Nat) : mm_n (mm_sj h a k v) b = mm_n h b := rfl
theorem mm_n_sp (h : mm_H) (a k : Nat) (v : Option Nat) (b : Nat) : mm_n (mm_sp h a k v) b = mm_n h b := rfl
theorem mm_i_si (h : mm_H) (a k : Nat) (v : Int32) (b j : Nat) : mm_i (mm_si h a k v) b j = if b = a ∧ j = k then v else mm_i h b j := rfl
theorem mm_i_sj (h : mm_H) (a k : Nat) (v : Int64) (b j : Nat) : mm_i (mm_sj h a k v) b j = mm_i h b j := rfl
theorem mm_i_sp (h : mm_H) (a k : Nat) (v : Option Nat) (b j : Nat) : mm_i (mm_sp h a k v) b j = mm_i h b j := rfl
theorem mm_j_si (h : mm_H) (a k : Nat) (v : Int32) (b j : Nat) : mm_j (mm_si h a k v) b j = mm_j h b j := rfl
theorem mm_j_sj (h : mm_H) (a k : Nat) (v : Int64) (b j : Nat) : mm_j (mm_sj h a k v) b j = if b = a ∧ j = k then v else mm_j h b j := rfl
theorem mm_j_sp (h : mm_H) (a k : Nat) (v : Option Nat) (b j : Nat) : mm_j (mm_sp h a k v) b j = mm_j h b j := rfl
theorem mm_p_si (h : mm_H) (a k : Nat) (v : Int32) (b j : Nat) : mm_p (mm_si h a k v) b j = mm_p h b j := rfl
theorem mm_p_sj (h : mm_H) (a k : Nat) (v : Int64) (b j : Nat) : mm_p (mm_sj h a k v) b j = mm_p h b j := rfl
theorem mm_p_sp (h : mm_H) (a k : Nat) (v : Option Nat) (b j : Nat) : mm_p (mm_sp h a k v) b j = if b = a ∧ j = k then v else mm_p h b j := rfl
theorem mm_val_ne_si (h : mm_H) (a k : Nat) (v : Int32) {b : Nat} (hb : b ≠ a) (ty j : Nat) : mm_val ty (mm_si h a k v) b j = mm_val ty h b j := by
  unfold mm_val; split <;> simp [mm_j_si, mm_p_si, mm_i_si, hb]
theorem mm_val_ne_sj (h : mm_H) (a k : Nat) (v : Int64) {b : Nat} (hb : b ≠ a) (ty j : Nat) : mm_val ty (mm_sj h a k v) b j = mm_val ty h b j := by
  unfold mm_val; split <;> simp [mm_j_sj, mm_p_sj, mm_i_sj, hb]
theorem mm_val_ne_sp (h : mm_H) (a k : Nat) (v : Option Nat) {b : Nat} (hb : b ≠ a) (ty j : Nat) : mm_val ty (mm_sp h a k v) b j = mm_val ty h b j := by
  unfold mm_val; split <;> simp [mm_j_sp, mm_p_sp, mm_i_sp, hb]
theorem mm_ev_ne_si (h : mm_H) (a k : Nat) (v : Int32) {b : Nat} (hb : b ≠ a) (ty : Nat) : mm_ev (mm_si h a k v) ty b = mm_ev h ty b := by
  funext j; unfold mm_ev; split <;> simp [mm_j_si, mm_p_si, mm_i_si, hb]
theorem mm_ev_ne_sj (h : mm_H) (a k : Nat) (v : Int64) {b : Nat} (hb : b ≠ a) (ty : Nat) : mm_ev (mm_sj h a k v) ty b = mm_ev h ty b := by
  funext j; unfold mm_ev; split <;> simp [mm_j_sj, mm_p_sj, mm_i_sj, hb]
theorem mm_ev_ne_sp (h : mm_H) (a k : Nat) (v : Option Nat) {b : Nat} (hb : b ≠ a) (ty : Nat) : mm_ev (mm_sp h a k v) ty b = mm_ev h ty b := by
  funext j; unfold mm_ev; split <;> simp [mm_j_sp, mm_p_sp, mm_i_sp, hb]
theorem mm_fv_ne_si (h : mm_H) (a k : Nat) (v : Int32) {b : Nat} (hb : b ≠ a) (ci : Nat) : mm_fv (mm_si h a k v) ci b = mm_fv h ci b := funext fun j => mm_val_ne_si h a k v hb _ j
theorem mm_fv_ne_sj (h : mm_H) (a k : Nat) (v : Int64) {b : Nat} (hb : b ≠ a) (ci : Nat) : mm_fv (mm_sj h a k v) ci b = mm_fv h ci b := funext fun j => mm_val_ne_sj h a k v hb _ j
theorem mm_fv_ne_sp (h : mm_H) (a k : Nat) (v : Option Nat) {b : Nat} (hb : b ≠ a) (ci : Nat) : mm_fv (mm_sp h a k v) ci b = mm_fv h ci b := funext fun j => mm_val_ne_sp h a k v hb _ j
theorem mm_fv_si (h : mm_H) (a k : Nat) (v : Int32) (ci : Nat) (hf : mm_ft ci k = 0 ∨ mm_ft ci k = 3) : mm_fv (mm_si h a k v) ci a = updV (mm_fv h ci a) k (.int v) := by
  funext j
  by_cases hj : j = k
  · subst hj
    rcases hf with hf | hf <;> simp [mm_fv, mm_val, hf, updV, mm_i_si]
  · simp only [mm_fv, updV, if_neg hj]
    unfold mm_val; split <;> simp [mm_j_si, mm_p_si, mm_i_si, hj]
theorem mm_fv_sj (h : mm_H) (a k : Nat) (v : Int64) (ci : Nat) (hf : mm_ft ci k = 1) : mm_fv (mm_sj h a k v) ci a = updV (mm_fv h ci a) k (.long v) := by
  funext j
  by_cases hj : j = k
  · subst hj
    simp [mm_fv, mm_val, hf, updV, mm_j_sj]
  · simp only [mm_fv, updV, if_neg hj]
    unfold mm_val; split <;> simp [mm_j_sj, mm_p_sj, mm_i_sj, hj]
theorem mm_fv_sp (h : mm_H) (a k : Nat) (v : Option Nat) (ci : Nat) (hf : mm_ft ci k = 2) : mm_fv (mm_sp h a k v) ci a = updV (mm_fv h ci a) k (va_rf v) := by
  funext j
  by_cases hj : j = k
  · subst hj
    simp [mm_fv, mm_val, hf, updV, mm_p_sp]
  · simp only [mm_fv, updV, if_neg hj]
    unfold mm_val; split <;> simp [mm_j_sp, mm_p_sp, mm_i_sp, hj]
theorem mm_ev_si (h : mm_H) (a k : Nat) (v : Int32) : mm_ev (mm_si h a k v) 0 a = updV (mm_ev h 0 a) k (.int v) := by
  funext j
  by_cases hj : j = k
  · subst hj; simp [mm_ev, updV, mm_i_si]
  · simp [mm_ev, updV, mm_i_si, hj]
theorem mm_ev_sj (h : mm_H) (a k : Nat) (v : Int64) : mm_ev (mm_sj h a k v) 1 a = updV (mm_ev h 1 a) k (.long v) := by
  funext j
  by_cases hj : j = k
  · subst hj; simp [mm_ev, updV, mm_j_sj]
  · simp [mm_ev, updV, mm_j_sj, hj]
theorem mm_ev_sp (h : mm_H) (a k : Nat) (v : Option Nat) {ty : Nat} (hty : 2 ≤ ty) : mm_ev (mm_sp h a k v) ty a = updV (mm_ev h ty a) k (va_rf v) := by
  obtain ⟨t, rfl⟩ : ∃ t, ty = t + 2 := ⟨ty - 2, by omega⟩
  funext j
  by_cases hj : j = k
  · subst hj; simp [mm_ev, updV, mm_p_sp]
  · simp [mm_ev, updV, mm_p_sp, hj]
def mm_dv (ty : Nat) : Value := match ty with
  | 1 => .long 0
  | 2 => .null
  | _ => .int 0
/-- a class's words, and its fields' types -/
def mm_okc (ci : Nat) (r : vw_C) : Prop := vwCl[ci]? = some r ∧ ci < 8 ∧ (∀ w ∈ u_ws r.1 r.2.1 r.2.2, w ∈ mm_B) ∧ (∀ a, a < r.2.2 → ∀ b, b < r.2.2 → a ≠ b → (r.2.1 a).2.1 ≠ (r.2.1 b).2.1) ∧ (∃ ty0 : Nat → FieldType, (∀ k, k < r.2.2 → parseFieldDescriptor (r.2.1 k).2.2.1 = some (ty0 k)) ∧ ∀ k, k < r.2.2 → defaultValue (ty0 k) = mm_dv (mm_ft ci k))
variable {M : mm_M} {pc : Nat} {L : List (Option Value)} {S : List Value} {h : mm_H} {cc cs : Nat} {Post : mm_Q}
theorem mw_getf {ci k a idx : Nat} {r : vw_C} {v : Value} (hr : mm_okc ci r) (hk : k < r.2.2) (hl : Cond.fieldLink (mm_my M).cls idx (r.2.1 k).1 (r.2.1 k).2.1 (r.2.1 k).2.2.1 ∈ mm_B) (ha : mm_k h a = ci + 1) (hv : mm_fv h ci a k = v) (d : decode (mm_mc M) pc = .ok (.getfield idx, 3)) (kk : MW M (pc + 3) L (v :: S) h cc cs Post) : MW M pc L (.ref a :: S) h cc cs Post := by
  intro l p e s m args below meth c D A H locs ls C R Lh
  obtain ⟨hrc, hci, hws, hnm, ty0, hty, -⟩ := hr
  obtain ⟨r', h1, cell, q1, q2, q3, q4⟩ := (R.1 a (by omega)).1 ci ha hci
  cases Option.some.inj (h1.symm.trans hrc)
  obtain ⟨hS, hfc, kC, hkC, hkind⟩ := C.2.2.2.2.2.2.2.2.1.1 ci _ hrc
  obtain ⟨cf, kf, fi, f, hi, hsl⟩ := hS k hk
  refine W.getf C.1 C.2.1 C.2.2.2.2.1 (C.2.2.2.2.2.1 _ hl) hi (u_facts hfc hkC (u_lays C.2.2.2.2.2.1 hws hk) hi).1 q1 (by rw [q3]; exact fun h => by cases h) (v := v) ?_ rfl rfl d (kk l p e s m args below meth c D A H locs ls C R Lh)
  rw [hsl, q4 k hk, hv]
theorem mm_putf {ci k a idx : Nat} {r : vw_C} {v : Value} {ty : FieldType} {h2 : mm_H} (hr : mm_okc ci r) (hk : k < r.2.2) (hl : Cond.fieldLink (mm_my M).cls idx (r.2.1 k).1 (r.2.1 k).2.1 (r.2.1 k).2.2.1 ∈ mm_B) (ha : mm_k h a = ci + 1) (hfin : (r.2.1 k).2.2.2 = false ∨ ((r.2.1 k).2.2.2 = true ∧ (mm_my M).name = "<init>" ∧ (r.2.1 k).1 = (mm_my M).cls)) (hd : parseFieldDescriptor (r.2.1 k).2.2.1 = some ty) (hn : narrow ty v = v) (hfit : fits ty v = true)
    (gk : ∀ b, mm_k h2 b = mm_k h b) (gn : ∀ b, mm_n h2 b = mm_n h b) (gf : ∀ b, b ≠ a → ∀ ci, mm_fv h2 ci b = mm_fv h ci b) (ge : ∀ b, b ≠ a → ∀ ty, mm_ev h2 ty b = mm_ev h ty b) (gv : mm_fv h2 ci a = updV (mm_fv h ci a) k v)
    (d : decode (mm_mc M) pc = .ok (.putfield idx, 3)) (kk : MW M (pc + 3) L S h2 cc cs Post) : MW M pc L (v :: .ref a :: S) h cc cs Post := by
  intro l p e s m args below meth c D A H locs ls C R Lh
  obtain ⟨hrc, hci, hws, hnm, ty0, hty, -⟩ := hr
  have hK := C.2.2.2.2.2.2.2.2.1
  have hts := C.2.2.2.2.2.1
  have hown := C.2.2.2.2.1
  have hap := va_apart (own := (mm_my M).cls) hts hws ty0 hty hnm hK hrc
  obtain ⟨r', h1, cell, q1, q2, q3, q4⟩ := (R.1 a (by omega)).1 ci ha hci
  cases Option.some.inj (h1.symm.trans hrc)
  obtain ⟨hS, hfc, kC, hkC, hkind⟩ := hK.1 ci _ hrc
  obtain ⟨cf, kf, fi, f, hi, hsl⟩ := hS k hk
  have hlay := hts _ (hws _ (u_in_lay hk))
  have hst := (u_facts hfc hkC (u_lays hts hws hk) hi).1
  have fin : ∀ H' : Heap, H'[a]? = some (cell.setSlot f.slot v) → H'.size = H.size → (∀ q, q ≠ a → H'[q]? = H[q]?) → W p l e (mm_mo M) s m args below meth c H' (locs ++ [⟨a, f.slot⟩]) cc cs (mm_E M below D A Post args s) (F0 m (pc + 3) ls S) := by
    intro H' e1 e2 e3
    rw [hsl] at e1 ⊢
    refine kk l p e s m args below meth c D A H' _ ls C ⟨mm_put R.1 gk gn gf ge e3 ⟨fun ci2 hc2 hl2 => ?_, fun ty2 ht2 => ?_⟩, fun b hb => R.2.1 b (by rw [← gk b]; exact hb), R.2.2.put e2 e3 (R.2.1 a (by omega))⟩ Lh
    · rw [gk a, ha] at hc2
      have hcc : ci2 = ci := by omega
      subst hcc
      refine ⟨_, hrc, ?_⟩
      rw [gv]
      exact ⟨_, e1, q2, q3, t_set q4 hap hk v⟩
    · rw [gk a, ha] at ht2
      omega
  rcases hfin with hfin | ⟨hfin, hnm2, hdecl⟩
  · unfold u_lay at hlay
    rw [if_neg (by rw [hfin]; decide)] at hlay
    have h6 := u_store hfc hkC hkind hlay hi hd hn hfit
    exact W.putK C.1 C.2.1 (f := f) ⟨hown, hts _ hl, ⟨_, _, _, hi⟩, hst⟩ (by rw [q2]; exact h6) q1 q3 (by rw [hsl]; exact k2_hasslot (q4 k hk)) rfl rfl d fin
  · unfold u_lay at hlay
    rw [if_pos hfin] at hlay
    have hcf : m.cls = cf := by
      obtain ⟨_, _, c', _, _, _, -, -, hf', -, -, -, hown2, -⟩ := Cond.laysFinal_spec hlay
      have e1 : c' = cf := by have := hi.symm.trans hf'; simp at this; exact this.1.symm
      rw [hdecl] at hown2
      rw [← e1]; exact Option.some.inj (hown.symm.trans hown2)
    have h6 := u_fits hfc hkC hkind (Or.inr hlay) hi hd hn hfit
    exact W.putFinK C.1 C.2.1 hown (hts _ hl) hi hst hcf (C.2.2.2.2.2.2.2.2.2.2.2.2.1.trans hnm2) (by rw [q2]; exact h6) q1 q3 (by rw [hsl]; exact k2_hasslot (q4 k hk)) rfl rfl d fin
theorem mw_puti {ci k a idx : Nat} {r : vw_C} {x : Int32} (hr : mm_okc ci r) (hk : k < r.2.2) (hl : Cond.fieldLink (mm_my M).cls idx (r.2.1 k).1 (r.2.1 k).2.1 (r.2.1 k).2.2.1 ∈ mm_B) (ha : mm_k h a = ci + 1) (hfin : (r.2.1 k).2.2.2 = false ∨ ((r.2.1 k).2.2.2 = true ∧ (mm_my M).name = "<init>" ∧ (r.2.1 k).1 = (mm_my M).cls)) (hd : parseFieldDescriptor (r.2.1 k).2.2.1 = some .int) (hf : mm_ft ci k = 0) (d : decode (mm_mc M) pc = .ok (.putfield idx, 3)) (kk : MW M (pc + 3) L S (mm_si h a k x) cc cs Post) : MW M pc L (.int x :: .ref a :: S) h cc cs Post :=
  mm_putf (h2 := mm_si h a k x) hr hk hl ha hfin hd rfl rfl (fun _ => rfl) (fun _ => rfl) (fun _ hb ci => mm_fv_ne_si h a k x hb ci) (fun _ hb ty => mm_ev_ne_si h a k x hb ty) (mm_fv_si h a k x ci (Or.inl hf)) d kk
theorem mw_putz {ci k a idx : Nat} {r : vw_C} {x : Int32} (hx : x = 0 ∨ x = 1) (hr : mm_okc ci r) (hk : k < r.2.2) (hl : Cond.fieldLink (mm_my M).cls idx (r.2.1 k).1 (r.2.1 k).2.1 (r.2.1 k).2.2.1 ∈ mm_B) (ha : mm_k h a = ci + 1) (hfin : (r.2.1 k).2.2.2 = false ∨ ((r.2.1 k).2.2.2 = true ∧ (mm_my M).name = "<init>" ∧ (r.2.1 k).1 = (mm_my M).cls)) (hd : parseFieldDescriptor (r.2.1 k).2.2.1 = some .boolean) (hf : mm_ft ci k = 3) (d : decode (mm_mc M) pc = .ok (.putfield idx, 3)) (kk : MW M (pc + 3) L S (mm_si h a k x) cc cs Post) : MW M pc L (.int x :: .ref a :: S) h cc cs Post :=
  mm_putf (h2 := mm_si h a k x) hr hk hl ha hfin hd (by rcases hx with rfl | rfl <;> rfl) (by rcases hx with rfl | rfl <;> rfl) (fun _ => rfl) (fun _ => rfl) (fun _ hb ci => mm_fv_ne_si h a k x hb ci) (fun _ hb ty => mm_ev_ne_si h a k x hb ty) (mm_fv_si h a k x ci (Or.inr hf)) d kk
theorem mw_putl {ci k a idx : Nat} {r : vw_C} {x : Int64} (hr : mm_okc ci r) (hk : k < r.2.2) (hl : Cond.fieldLink (mm_my M).cls idx (r.2.1 k).1 (r.2.1 k).2.1 (r.2.1 k).2.2.1 ∈ mm_B) (ha : mm_k h a = ci + 1) (hfin : (r.2.1 k).2.2.2 = false ∨ ((r.2.1 k).2.2.2 = true ∧ (mm_my M).name = "<init>" ∧ (r.2.1 k).1 = (mm_my M).cls)) (hd : parseFieldDescriptor (r.2.1 k).2.2.1 = some .long) (hf : mm_ft ci k = 1) (d : decode (mm_mc M) pc = .ok (.putfield idx, 3)) (kk : MW M (pc + 3) L S (mm_sj h a k x) cc cs Post) : MW M pc L (.long x :: .ref a :: S) h cc cs Post :=
  mm_putf (h2 := mm_sj h a k x) hr hk hl ha hfin hd rfl rfl (fun _ => rfl) (fun _ => rfl) (fun _ hb ci => mm_fv_ne_sj h a k x hb ci) (fun _ hb ty => mm_ev_ne_sj h a k x hb ty) (mm_fv_sj h a k x ci hf) d kk
theorem mw_putr {ci k a idx : Nat} {r : vw_C} {x : Nat} {ty : FieldType} (hr : mm_okc ci r) (hk : k < r.2.2) (hl : Cond.fieldLink (mm_my M).cls idx (r.2.1 k).1 (r.2.1 k).2.1 (r.2.1 k).2.2.1 ∈ mm_B) (ha : mm_k h a = ci + 1) (hfin : (r.2.1 k).2.2.2 = false ∨ ((r.2.1 k).2.2.2 = true ∧ (mm_my M).name = "<init>" ∧ (r.2.1 k).1 = (mm_my M).cls)) (hd : parseFieldDescriptor (r.2.1 k).2.2.1 = some ty) (hn : narrow ty (.ref x) = .ref x) (hfit : fits ty (.ref x) = true) (hf : mm_ft ci k = 2) (d : decode (mm_mc M) pc = .ok (.putfield idx, 3)) (kk : MW M (pc + 3) L S (mm_sp h a k (some x)) cc cs Post) : MW M pc L (.ref x :: .ref a :: S) h cc cs Post :=
  mm_putf (h2 := mm_sp h a k (some x)) hr hk hl ha hfin hd hn hfit (fun _ => rfl) (fun _ => rfl) (fun _ hb ci => mm_fv_ne_sp h a k _ hb ci) (fun _ hb ty => mm_ev_ne_sp h a k _ hb ty) (mm_fv_sp h a k (some x) ci hf) d kk
theorem mm_arr {D : mm_G} {s : State} (hK : mm_K D s) {ty : Nat} (hty : ty < 6) (n : Nat) (f : Nat → Value) : s.isArrayOf (arrV (D.2.2 ty) n f) (mm_ty ty) := by
  have h : (mm_tys D)[ty]? = some (D.2.2 ty, mm_ty ty) := by
    rcases (show ty = 0 ∨ ty = 1 ∨ ty = 2 ∨ ty = 3 ∨ ty = 4 ∨ ty = 5 by omega) with rfl | rfl | rfl | rfl | rfl | rfl <;> rfl
  exact (hK.2 ty _ h).1 n f
theorem mw_iald {a : Nat} {i : Int32} {v : Int32} (ha : mm_k h a = 9) (hin : vp_in i (mm_n h a)) (hv : mm_i h a i.toNatClampNeg = v) (d : decode (mm_mc M) pc = .ok (.iaload, 1)) (kk : MW M (pc + 1) L (.int v :: S) h cc cs Post) : MW M pc L (.int i :: .ref a :: S) h cc cs Post := by
  intro l p e s m args below meth c D A H locs ls C R Lh
  have hlt : i.toNatClampNeg < mm_n h a := Nat.not_le.mp fun q => hin (Or.inr q)
  subst hv
  exact W.iald (v := .int (mm_i h a i.toNatClampNeg)) C.1 C.2.1 ((R.1 a (by omega)).2 0 ha) (mm_arr C.2.2.2.2.2.2.2.2.1 (by decide) _ _) (fun q => by cases q) (by rw [arrV_size]; exact hin) (by rw [arrV_read _ _ hlt]; rfl) rfl rfl d (kk l p e s m args below meth c D A H locs ls C R Lh)
theorem mw_lald {a : Nat} {i : Int32} {v : Int64} (ha : mm_k h a = 10) (hin : vp_in i (mm_n h a)) (hv : mm_j h a i.toNatClampNeg = v) (d : decode (mm_mc M) pc = .ok (.laload, 1)) (kk : MW M (pc + 1) L (.long v :: S) h cc cs Post) : MW M pc L (.int i :: .ref a :: S) h cc cs Post := by
  intro l p e s m args below meth c D A H locs ls C R Lh
  have hlt : i.toNatClampNeg < mm_n h a := Nat.not_le.mp fun q => hin (Or.inr q)
  subst hv
  exact W.lald (v := .long (mm_j h a i.toNatClampNeg)) C.1 C.2.1 ((R.1 a (by omega)).2 1 ha) (mm_arr C.2.2.2.2.2.2.2.2.1 (by decide) _ _) (fun q => by cases q) (by rw [arrV_size]; exact hin) (by rw [arrV_read _ _ hlt]; rfl) rfl rfl d (kk l p e s m args below meth c D A H locs ls C R Lh)
theorem mm_ev2 (h : mm_H) {ty : Nat} (hty : 2 ≤ ty) (a k : Nat) : mm_ev h ty a k = va_rf (mm_p h a k) := by
  obtain ⟨t, rfl⟩ : ∃ t, ty = t + 2 := ⟨ty - 2, by omega⟩
  rfl
theorem mm_tyref {ty : Nat} (h2 : 2 ≤ ty) : (mm_ty ty).isReference = true := by
  rcases (show ty = 2 ∨ ty = 3 ∨ ty = 4 ∨ 5 ≤ ty by omega) with rfl | rfl | rfl | h5
  · rfl
  · rfl
  · rfl
  · obtain ⟨t, rfl⟩ : ∃ t, ty = t + 5 := ⟨ty - 5, by omega⟩
    rfl
theorem mw_aald {a ty : Nat} {i : Int32} {v : Value} (ha : mm_k h a = ty + 9) (h2 : 2 ≤ ty) (h6 : ty < 6) (hin : vp_in i (mm_n h a)) (hv : va_rf (mm_p h a i.toNatClampNeg) = v) (d : decode (mm_mc M) pc = .ok (.aaload, 1)) (kk : MW M (pc + 1) L (v :: S) h cc cs Post) : MW M pc L (.int i :: .ref a :: S) h cc cs Post := by
  intro l p e s m args below meth c D A H locs ls C R Lh
  have hlt : i.toNatClampNeg < mm_n h a := Nat.not_le.mp fun q => hin (Or.inr q)
  subst hv
  exact W.aald (v := va_rf (mm_p h a i.toNatClampNeg)) (ty := mm_ty ty) C.1 C.2.1 ((R.1 a (by omega)).2 ty ha) (mm_arr C.2.2.2.2.2.2.2.2.1 h6 _ _) (mm_tyref h2) (fun q => by cases q) (by rw [arrV_size]; exact hin) (by rw [arrV_read _ _ hlt, mm_ev2 h h2]) rfl rfl d (kk l p e s m args below meth c D A H locs ls C R Lh)
theorem mw_alen {a ty : Nat} {v : Int32} (ha : mm_k h a = ty + 9) (h6 : ty < 6) (hv : Int32.ofNat (mm_n h a) = v) (d : decode (mm_mc M) pc = .ok (.arraylength, 1)) (kk : MW M (pc + 1) L (.int v :: S) h cc cs Post) : MW M pc L (.ref a :: S) h cc cs Post := by
  intro l p e s m args below meth c D A H locs ls C R Lh
  subst hv
  exact W.alen (n := Int32.ofNat (mm_n h a)) C.1 C.2.1 ((R.1 a (by omega)).2 ty ha) (mm_arr C.2.2.2.2.2.2.2.2.1 h6 _ _) (by rw [arrV_size] <;> rfl) rfl rfl d (kk l p e s m args below meth c D A H locs ls C R Lh)
theorem mm_arrput {D : mm_G} {h2 : mm_H} {H H1 : Heap} {a ty k : Nat} {v : Value} (hP : mm_P D h H) (ha : mm_k h a = ty + 9) (gk : ∀ b, mm_k h2 b = mm_k h b) (gn : ∀ b, mm_n h2 b = mm_n h b) (gf : ∀ b, b ≠ a → ∀ ci, mm_fv h2 ci b = mm_fv h ci b) (ge : ∀ b, b ≠ a → ∀ ty, mm_ev h2 ty b = mm_ev h ty b) (gv : mm_ev h2 ty a = updV (mm_ev h ty a) k v) (e : H1[a]? = some ((arrV (D.2.2 ty) (mm_n h a) (mm_ev h ty a)).setSlot k v)) (oq : ∀ q, q ≠ a → H1[q]? = H[q]?) : mm_P D h2 H1 := by
  refine mm_put hP gk gn gf ge oq ⟨fun ci hc hl => ?_, fun ty2 ht => ?_⟩
  · rw [gk a, ha] at hc
    omega
  · rw [gk a, ha] at ht
    have : ty2 = ty := by omega
    subst this
    rw [e, gv, gn a, arrV_store]
theorem mw_iast {a : Nat} {i x : Int32} (ha : mm_k h a = 9) (hin : vp_in i (mm_n h a)) (d : decode (mm_mc M) pc = .ok (.iastore, 1)) (kk : MW M (pc + 1) L S (mm_si h a i.toNatClampNeg x) cc cs Post) : MW M pc L (.int x :: .int i :: .ref a :: S) h cc cs Post := by
  intro l p e s m args below meth c D A H locs ls C R Lh
  refine W.iast C.1 C.2.1 ((R.1 a (by omega)).2 0 ha) (mm_arr C.2.2.2.2.2.2.2.2.1 (by decide) _ _) (fun q => by cases q) (by rw [arrV_size]; exact hin) rfl rfl d fun H1 e1 z oq => ?_
  exact kk l p e s m args below meth c D A H1 _ ls C ⟨mm_arrput (ty := 0) R.1 ha (fun _ => rfl) (fun _ => rfl) (fun _ hb ci => mm_fv_ne_si h a _ x hb ci) (fun _ hb ty => mm_ev_ne_si h a _ x hb ty) (mm_ev_si h a _ x) e1 oq, R.2.1, R.2.2.put z oq (R.2.1 a (by omega))⟩ Lh
theorem mw_last {a : Nat} {i : Int32} {x : Int64} (ha : mm_k h a = 10) (hin : vp_in i (mm_n h a)) (d : decode (mm_mc M) pc = .ok (.lastore, 1)) (kk : MW M (pc + 1) L S (mm_sj h a i.toNatClampNeg x) cc cs Post) : MW M pc L (.long x :: .int i :: .ref a :: S) h cc cs Post := by
  intro l p e s m args below meth c D A H locs ls C R Lh
  refine W.last C.1 C.2.1 ((R.1 a (by omega)).2 1 ha) (mm_arr C.2.2.2.2.2.2.2.2.1 (by decide) _ _) (fun q => by cases q) (by rw [arrV_size]; exact hin) rfl rfl d fun H1 e1 z oq => ?_
  exact kk l p e s m args below meth c D A H1 _ ls C ⟨mm_arrput (ty := 1) R.1 ha (fun _ => rfl) (fun _ => rfl) (fun _ hb ci => mm_fv_ne_sj h a _ x hb ci) (fun _ hb ty => mm_ev_ne_sj h a _ x hb ty) (mm_ev_sj h a _ x) e1 oq, R.2.1, R.2.2.put z oq (R.2.1 a (by omega))⟩ Lh
/-- an array of objects takes an object of its class -/
theorem mw_aast {a ty ci v : Nat} {i : Int32} {r : vw_C} (ha : mm_k h a = ty + 9) (h2 : 2 ≤ ty) (h6 : ty < 5) (hin : vp_in i (mm_n h a)) (hr : vwCl[ci]? = some r) (hci : ci < 8) (hty : mm_ty ty = .object r.1) (hv : mm_k h v = ci + 1) (d : decode (mm_mc M) pc = .ok (.aastore, 1)) (kk : MW M (pc + 1) L S (mm_sp h a i.toNatClampNeg (some v)) cc cs Post) : MW M pc L (.ref v :: .int i :: .ref a :: S) h cc cs Post := by
  intro l p e s m args below meth c D A H locs ls C R Lh
  have hlt : i.toNatClampNeg < mm_n h a := Nat.not_le.mp fun q => hin (Or.inr q)
  have h0 : ¬ i < 0 := fun q => hin (Or.inl q)
  have hK := C.2.2.2.2.2.2.2.2.1
  obtain ⟨r', hr', cellV, g1, g2, g3, -⟩ := (R.1 v (by omega)).1 ci hv hci
  have hcls := (hK.1 ci r hr).2
  have ht : (mm_tys D)[ty]? = some (D.2.2 ty, .object r.1) := by
    rw [← hty]
    rcases (show ty = 2 ∨ ty = 3 ∨ ty = 4 by omega) with rfl | rfl | rfl <;> rfl
  obtain ⟨kA, comp, k1, k2, k3, -⟩ := (hK.2 ty _ ht).2
  have hcomp : comp = D.1 ci := Option.some.inj (k3.symm.trans hcls.1)
  subst hcomp
  obtain ⟨kC, hkC, -⟩ := hcls.2
  refine W.aast C.1 C.2.1 ((R.1 a (by omega)).2 ty ha) (fun q h => by cases h) (fun h => by cases h) k1 k2 rfl hkC ⟨h0, by rw [arrV_size]; exact hlt⟩ g1 (fun q h => by rw [g3] at h; cases h) (by rw [g2]; exact hkC) (by rw [g2]; exact va_assign hcls) rfl rfl d fun H1 e1 z oq => ?_
  exact kk l p e s m args below meth c D A H1 _ ls C ⟨mm_arrput (ty := ty) R.1 ha (fun _ => rfl) (fun _ => rfl) (fun _ hb ci => mm_fv_ne_sp h a _ _ hb ci) (fun _ hb ty => mm_ev_ne_sp h a _ _ hb ty) (mm_ev_sp h a _ (some v) h2) e1 oq, R.2.1, R.2.2.put z oq (R.2.1 a (by omega))⟩ Lh
end MMh
