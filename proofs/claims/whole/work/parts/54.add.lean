/-! a new loop, a new subscriber, the best codes given -/
section
variable {B N : Nat → Int32} {n m : Nat}
/-- as lpc_fr, with more loops and more who might be rung -/
theorem lpc_up {B2 : Nat → Int32} {O D O2 D2 : Nat → Nat → Bool} {l n2 : Nat} (h : lpc B O D n l) (hn : n ≤ n2) (h1 : B2 (20 * l + 1) = B (20 * l + 1)) (h3 : B2 (20 * l + 3) = B (20 * l + 3)) (h4 : B2 (20 * l + 4) = B (20 * l + 4)) (h5 : B2 (20 * l + 5) = B (20 * l + 5)) (h6 : B2 (20 * l + 6) = B (20 * l + 6)) (hO : O2 l = O l) (hD : ∀ s, D l s = true → D2 l s = true) (hp : ∀ e, e < n → B2 (20 * e + 1) = B (20 * e + 1) ∧ B2 (20 * e + 5) = B (20 * e + 5)) : lpc B2 O2 D2 n2 l := by
  have hl : ∀ k, lnk B n l k → lnk B2 n2 l k := fun k hk => by
    obtain ⟨e, a1, a2, a3, a4, a5⟩ := hk
    obtain ⟨b1, b2⟩ := hp e a1
    exact ⟨e, by omega, a2, h5.trans a3, b1.trans a4, b2.trans a5⟩
  have hx : ∀ x, onx D l x → onx D2 l x := fun x ⟨s, a, b⟩ => ⟨s, hD s a, b⟩
  have ho : ∀ x, onx O l x → onx O2 l x := fun x ⟨s, a, b⟩ => ⟨s, by rw [hO]; exact a, b⟩
  unfold lpc at *
  rw [h1, h3, h4, h5, h6, hO]
  obtain ⟨a, b0, b1, b2, b3, b4, b5, b6, b7, b8⟩ := h
  exact ⟨a, b0, fun q => ⟨ho _ (b1 q).1, (b1 q).2⟩, fun q => ⟨ho _ (b2 q).1, (b2 q).2.1, (b2 q).2.2.1, hl _ (b2 q).2.2.2⟩, fun q => ⟨hx _ (b3 q).1, (b3 q).2.1, (b3 q).2.2.1, (b3 q).2.2.2.1, hl _ (b3 q).2.2.2.2⟩, fun q => ⟨ho _ (b4 q).1, (b4 q).2.1, hl _ (b4 q).2.2⟩, fun q => ⟨ho _ (b5 q).1, (b5 q).2⟩, fun q => ⟨ho _ (b6 q).1, hx _ (b6 q).2.1, (b6 q).2.2⟩, fun q => ⟨hx _ (b7 q).1, hx _ (b7 q).2.1, (b7 q).2.2⟩, fun q => ⟨hx _ (b8 q).1, ho _ (b8 q).2.1, (b8 q).2.2⟩⟩
theorem open_ne {x : Nat} (h0 : x ≠ 0) (h : x ≤ 20 * n ∨ 20 * n + 20 < x) : cs_open B n x = B x := by
  unfold cs_open cs_begin cs_clear
  rw [comeTo_eq]
  unfold mf_comes
  repeat rw [upd_ne _ _ (by omega)]
theorem mopen_ne {x : Nat} (h0 : x ≠ 0) (h : x ≤ 20 * n ∨ 20 * n + 20 < x) : mf_open N n x = N x := by
  unfold mf_open
  repeat rw [upd_ne _ _ (by omega)]
theorem open_0 : cs_open B n 0 = nI (n + 1) := by
  unfold cs_open cs_begin cs_clear
  rw [comeTo_eq]
  unfold mf_comes
  repeat rw [upd_ne _ _ (by omega)]
  rw [upd_self]
theorem mopn_0 : mf_open N n 0 = nI (n + 1) := by
  unfold mf_open
  repeat rw [upd_ne _ _ (by omega)]
  rw [upd_self]
theorem open_v {k : Nat} (h1 : 1 ≤ k) (h2 : k ≤ 20) : cs_open B n (20 * n + k) = if k = 1 ∨ k = 2 ∨ k = 6 ∨ k = 8 then 0 else if k = 3 ∨ k = 4 ∨ k = 5 ∨ k = 7 then -1 else 1 := by
  have hk : k = 1 ∨ k = 2 ∨ k = 3 ∨ k = 4 ∨ k = 5 ∨ k = 6 ∨ k = 7 ∨ k = 8 ∨ k = 9 ∨ k = 10 ∨ k = 11 ∨ k = 12 ∨ k = 13 ∨ k = 14 ∨ k = 15 ∨ k = 16 ∨ k = 17 ∨ k = 18 ∨ k = 19 ∨ k = 20 := by omega
  unfold cs_open cs_begin cs_clear
  rw [comeTo_eq]
  unfold mf_comes
  rcases hk with rfl | rfl | rfl | rfl | rfl | rfl | rfl | rfl | rfl | rfl | rfl | rfl | rfl | rfl | rfl | rfl | rfl | rfl | rfl | rfl <;> simp [upd]
theorem mopen_v (z : zl N n) (hn : n < 5) {k : Nat} (h1 : 1 ≤ k) (h2 : k ≤ 20) : mf_open N n (20 * n + k) = if k = 1 ∨ k = 2 ∨ k = 6 ∨ k = 8 then 0 else if k = 3 ∨ k = 4 ∨ k = 5 ∨ k = 7 then -1 else 1 := by
  have hk : k = 1 ∨ k = 2 ∨ k = 3 ∨ k = 4 ∨ k = 5 ∨ k = 6 ∨ k = 7 ∨ k = 8 ∨ k = 9 ∨ k = 10 ∨ k = 11 ∨ k = 12 ∨ k = 13 ∨ k = 14 ∨ k = 15 ∨ k = 16 ∨ k = 17 ∨ k = 18 ∨ k = 19 ∨ k = 20 := by omega
  obtain ⟨z1, z2, z3, z4⟩ := z n (Nat.le_refl n) hn
  unfold mf_open
  rcases hk with rfl | rfl | rfl | rfl | rfl | rfl | rfl | rfl | rfl | rfl | rfl | rfl | rfl | rfl | rfl | rfl | rfl | rfl | rfl | rfl <;> simp [upd, z1, z2, z3, z4]
theorem S_open (I : Iv B N n m) (hn5 : n < 5) : Iv (cs_open B n) (mf_open N n) (n + 1) m := by
  obtain ⟨G, Z, A, L, R, zz, dd⟩ := I
  have hm := G.2.2.2.1
  have lo : ∀ l k, l < n → 1 ≤ k → k ≤ 20 → cs_open B n (20 * l + k) = B (20 * l + k) := fun l k _ _ _ => open_ne (by omega) (by omega)
  have su : ∀ s k, cs_open B n (101 + 8 * s + k) = B (101 + 8 * s + k) := fun s k => open_ne (by omega) (by omega)
  have sN : ∀ s k, mf_open N n (101 + 8 * s + k) = N (101 + 8 * s + k) := fun s k => mopen_ne (by omega) (by omega)
  have memE : ∀ l s, mem (cs_open B n) m l s ↔ mem B m l s := fun l s => by unfold mem; rw [su]
  have cutE : ∀ l s, l < n → cs_cuts (cs_open B n) l s = cs_cuts B l s := fun l s hl => by
    unfold cs_cuts cs_flt; rw [lo l 7 hl (by decide) (by decide), lo l 8 hl (by decide) (by decide), su]
  have onE : ∀ l, l < n → cs_on (cs_open B n) m l = cs_on B m l := fun l hl => by
    funext s; rw [Bool.eq_iff_iff, on_iff, on_iff, memE, cutE l s hl, su]
  have inE : ∀ l, l < n → cs_in (cs_open B n) m l = cs_in B m l := fun l hl => by
    funext s; rw [Bool.eq_iff_iff, in_iff, in_iff, memE, cutE l s hl]
  have nomem : ∀ s, ¬ mem B m n s := fun s hs => by
    obtain ⟨l, h1, h2⟩ := G.2.2.2.2.1 s hs.1
    have := nI_inj (hs.2.symm.trans h2) (by omega) (by omega)
    omega
  refine ⟨⟨open_0, by omega, (open_ne (by omega) (by omega)).trans G.2.2.1, hm, fun s hs => ?_, fun s hs => ?_⟩, ⟨fun l hl => ?_, fun s hs => ?_⟩, fun x hx => ?_, fun l hl _ => ?_, fun l hl _ => ?_, fun l h1 h2 => ?_, fun s t hs ht hst => ?_⟩
  · rw [su]
    obtain ⟨l, h1, h2⟩ := G.2.2.2.2.1 s hs
    exact ⟨l, by omega, h2⟩
  · rw [su]; exact G.2.2.2.2.2 s hs
  · by_cases e : l = n
    · subst e
      rw [open_v (by decide) (by decide), open_v (by decide) (by decide)]
      simp
    · rw [open_ne (by omega) (by omega), open_ne (by omega) (by omega)]; exact Z.1 l hl
  · rw [su, su, su]; exact Z.2 s hs
  · by_cases h0 : x = 0
    · subst h0; rw [open_0, mopn_0]
    · by_cases h1 : 20 * n < x ∧ x ≤ 20 * n + 20
      · obtain ⟨k, rfl⟩ : ∃ k, x = 20 * n + k := ⟨x - 20 * n, by omega⟩
        rw [open_v (by omega) (by omega), mopen_v zz hn5 (by omega) (by omega)]
      · rw [open_ne h0 (by omega), mopen_ne h0 (by omega)]
        exact A x (by unfold us at hx ⊢; omega)
  · by_cases e : l = n
    · subst e
      refine lpc_mk0 (by rw [open_v (by decide) (by decide)]; simp) ⟨by rw [open_v (by decide) (by decide)]; simp, by rw [open_v (by decide) (by decide)]; simp, by rw [open_v (by decide) (by decide)]; simp, by rw [open_v (by decide) (by decide)]; simp, fun s => ?_⟩
      cases h : cs_on (cs_open B l) m l s with
      | false => rfl
      | true => exact absurd ((memE l s).1 (on_iff.1 h).1) (nomem s)
    · have hl2 : l < n := by omega
      exact lpc_up (L l hl2 trivial) (by omega) (lo l 1 hl2 (by decide) (by decide)) (lo l 3 hl2 (by decide) (by decide)) (lo l 4 hl2 (by decide) (by decide)) (lo l 5 hl2 (by decide) (by decide)) (lo l 6 hl2 (by decide) (by decide)) (onE l hl2) (fun s h => by rw [inE l hl2]; exact h) (fun e he => ⟨lo e 1 he (by decide) (by decide), lo e 5 he (by decide) (by decide)⟩)
  · by_cases e : l = n
    · subst e
      exact ⟨fun s h _ => absurd ((memE l s).1 h) (nomem s), fun s h => absurd ((memE l s).1 (on_iff.1 h).1) (nomem s)⟩
    · have hl2 : l < n := by omega
      refine rlo_fr (R l hl2 trivial) (fun s => memE l s) (fun s => by rw [onE l hl2]) (fun s _ => ?_) (fun s _ => su s 7) (fun s _ => sN s 7)
      unfold pty; rw [lo l 1 hl2 (by decide) (by decide), lo l 3 hl2 (by decide) (by decide), lo l 4 hl2 (by decide) (by decide)]
  · rw [mopen_ne (by omega) (by omega), mopen_ne (by omega) (by omega), mopen_ne (by omega) (by omega), mopen_ne (by omega) (by omega)]
    exact zz l (by omega) h2
  · rw [su, su, su, su]; exact dd s t hs ht hst
theorem enr_ne {l x : Nat} {p q : Int32} (h : x ≠ 101) (h2 : x < 101 + 8 * m + 1 ∨ 101 + 8 * m + 8 < x) : cs_enroll B m l p q x = B x := by
  unfold cs_enroll cs_sbeg
  repeat rw [upd_ne _ _ (by omega)]
theorem enr_101 {l : Nat} {p q : Int32} : cs_enroll B m l p q 101 = nI (m + 1) := by
  unfold cs_enroll cs_sbeg
  repeat rw [upd_ne _ _ (by omega)]
  rw [upd_self]
theorem enr_v {l k : Nat} {p q : Int32} (h1 : 1 ≤ k) (h2 : k ≤ 8) : cs_enroll B m l p q (101 + 8 * m + k) = if k = 1 then nI l else if k = 2 then p else if k = 3 then q else if k = 5 then 1 else 0 := by
  have hk : k = 1 ∨ k = 2 ∨ k = 3 ∨ k = 4 ∨ k = 5 ∨ k = 6 ∨ k = 7 ∨ k = 8 := by omega
  unfold cs_enroll cs_sbeg
  rcases hk with rfl | rfl | rfl | rfl | rfl | rfl | rfl | rfl <;> simp [upd]
theorem S_enroll {l : Nat} {p q : Int32} (I : Iv B N n m) (hm16 : m < 16) (hl : l < n) (h1 : 1 ≤ q) (h2 : q ≤ 14) (h : cs_hasC B m l q (-1) = 0) : Iv (cs_enroll B m l p q) (cs_enroll N m l p q) n (m + 1) := by
  obtain ⟨G, Z, A, L, R, zz, dd⟩ := I
  have hn := G.2.1
  have lo : ∀ l2 k, l2 < 5 → k ≤ 20 → cs_enroll B m l p q (20 * l2 + k) = B (20 * l2 + k) := fun l2 k _ _ => enr_ne (by omega) (by omega)
  have su : ∀ s k, s < m → 1 ≤ k → k ≤ 8 → cs_enroll B m l p q (101 + 8 * s + k) = B (101 + 8 * s + k) := fun s k _ _ _ => enr_ne (by omega) (by omega)
  have sN : ∀ s k, s < m → 1 ≤ k → k ≤ 8 → cs_enroll N m l p q (101 + 8 * s + k) = N (101 + 8 * s + k) := fun s k _ _ _ => enr_ne (by omega) (by omega)
  have memE : ∀ l2 s, s < m → (mem (cs_enroll B m l p q) (m + 1) l2 s ↔ mem B m l2 s) := fun l2 s hs => by
    unfold mem; rw [su s 1 hs (by decide) (by decide)]
    constructor
    · rintro ⟨_, b⟩; exact ⟨hs, b⟩
    · rintro ⟨_, b⟩; exact ⟨by omega, b⟩
  have cutE : ∀ l2 s, l2 < 5 → s < m → cs_cuts (cs_enroll B m l p q) l2 s = cs_cuts B l2 s := fun l2 s hl2 hs => by
    unfold cs_cuts cs_flt; rw [lo l2 7 hl2 (by decide), lo l2 8 hl2 (by decide), su s 2 hs (by decide) (by decide)]
  have offM : cs_enroll B m l p q (101 + 8 * m + 6) = 0 := by rw [enr_v (by decide) (by decide)]; simp
  have onE : ∀ l2, l2 < 5 → cs_on (cs_enroll B m l p q) (m + 1) l2 = cs_on B m l2 := fun l2 hl2 => by
    funext s
    rw [Bool.eq_iff_iff, on_iff, on_iff]
    by_cases hs : s < m
    · rw [memE l2 s hs, cutE l2 s hl2 hs, su s 6 hs (by decide) (by decide)]
    · constructor
      · rintro ⟨a, b, _⟩
        have : s = m := by have := a.1; omega
        subst this
        exact absurd offM b
      · rintro ⟨a, _⟩; exact absurd a.1 hs
  have inE : ∀ l2 s, l2 < 5 → cs_in B m l2 s = true → cs_in (cs_enroll B m l p q) (m + 1) l2 s = true := fun l2 s hl2 h => by
    rw [in_iff] at h ⊢
    have hs := h.1.1
    rw [memE l2 s hs, cutE l2 s hl2 hs]; exact h
  refine ⟨⟨(lo 0 0 (by decide) (by decide)).trans G.1, hn, enr_101, by omega, fun s hs => ?_, fun s hs => ?_⟩, ⟨fun l2 hl2 => ?_, fun s hs => ?_⟩, fun x hx => ?_, fun l2 hl2 _ => ?_, fun l2 hl2 _ => ?_, fun l2 a b => ?_, fun s t hs ht hst => ?_⟩
  · by_cases e : s = m
    · subst e; exact ⟨l, hl, by rw [enr_v (by decide) (by decide)]; simp⟩
    · rw [su s 1 (by omega) (by decide) (by decide)]; exact G.2.2.2.2.1 s (by omega)
  · by_cases e : s = m
    · subst e; rw [enr_v (by decide) (by decide)]; simp [h1, h2]
    · rw [su s 3 (by omega) (by decide) (by decide)]; exact G.2.2.2.2.2 s (by omega)
  · rw [lo l2 6 hl2 (by decide), lo l2 8 hl2 (by decide)]; exact Z.1 l2 hl2
  · by_cases e : s = m
    · subst e; rw [enr_v (by decide) (by decide), enr_v (by decide) (by decide), enr_v (by decide) (by decide)]; simp
    · rw [enr_ne (by omega) (by omega), enr_ne (by omega) (by omega), enr_ne (by omega) (by omega)]; exact Z.2 s hs
  · by_cases e : x = 101
    · subst e; rw [enr_101, enr_101]
    · by_cases e2 : 101 + 8 * m + 1 ≤ x ∧ x ≤ 101 + 8 * m + 8
      · obtain ⟨k, rfl⟩ : ∃ k, x = 101 + 8 * m + k := ⟨x - (101 + 8 * m), by omega⟩
        rw [enr_v (by omega) (by omega), enr_v (by omega) (by omega)]
      · rw [enr_ne e (by omega), enr_ne e (by omega)]
        exact A x (by unfold us at hx ⊢; omega)
  · exact lpc_up (L l2 hl2 trivial) (Nat.le_refl n) (lo l2 1 (by omega) (by decide)) (lo l2 3 (by omega) (by decide)) (lo l2 4 (by omega) (by decide)) (lo l2 5 (by omega) (by decide)) (lo l2 6 (by omega) (by decide)) (onE l2 (by omega)) (fun s h => inE l2 s (by omega) h) (fun e he => ⟨lo e 1 (by omega) (by decide), lo e 5 (by omega) (by decide)⟩)
  · have ptE : ∀ s, pty (cs_enroll B m l p q) l2 s ↔ pty B l2 s := fun s => by
      unfold pty; rw [lo l2 1 (by omega) (by decide), lo l2 3 (by omega) (by decide), lo l2 4 (by omega) (by decide)]
    obtain ⟨r1, r2⟩ := R l2 hl2 trivial
    refine ⟨fun s hs h7 => ?_, fun s hs => ?_⟩
    · by_cases hsm : s < m
      · rw [onE l2 (by omega)]
        rw [su s 7 hsm (by decide) (by decide)] at h7
        exact r1 s ((memE l2 s hsm).1 hs) h7
      · have : s = m := by have := hs.1; omega
        subst this
        rw [enr_v (by decide) (by decide)] at h7
        exact absurd (by simp) h7
    · rw [onE l2 (by omega)] at hs
      have hsm := (on_iff.1 hs).1.1
      rw [ptE, su s 7 hsm (by decide) (by decide), sN s 7 hsm (by decide) (by decide)]
      exact r2 s hs
  · rw [enr_ne (by omega) (by omega), enr_ne (by omega) (by omega), enr_ne (by omega) (by omega), enr_ne (by omega) (by omega)]
    exact zz l2 a b
  · intro hh
    by_cases es : s = m
    · subst es
      have htm : t < s := by omega
      rw [enr_v (by decide) (by decide), su t 1 htm (by decide) (by decide)] at hh
      rw [enr_v (by decide) (by decide), su t 3 htm (by decide) (by decide)]
      simp only [if_pos] at hh
      intro e
      exact has_none h t htm (by omega) hh.symm (nI_m1 (by omega)) (by simpa using e.symm)
    · by_cases et : t = m
      · subst et
        have hsm : s < t := by omega
        rw [enr_v (by decide) (by decide), su s 1 hsm (by decide) (by decide)] at hh
        rw [enr_v (by decide) (by decide), su s 3 hsm (by decide) (by decide)]
        simp only [if_pos] at hh
        intro e
        exact has_none h s hsm (by omega) hh (nI_m1 (by omega)) (by simpa using e)
      · rw [su s 1 (by omega) (by decide) (by decide), su t 1 (by omega) (by decide) (by decide)] at hh
        rw [su s 3 (by omega) (by decide) (by decide), su t 3 (by omega) (by decide) (by decide)]
        exact dd s t (by omega) (by omega) hst hh
end
