/-! faults -/
section
variable {B N : Nat → Int32} {n m : Nat}
/-- spans of l alone change: everybody else's loops -/
theorem F_fr {l : Nat} {k b : Int32} (hn : n ≤ 5) (hm : m ≤ 16) (hl : l < n) (hL : LPs B n m (· ≠ l)) (hR : RLs B N n m (· ≠ l)) {N2 : Nat → Int32} (hN2 : ∀ l2 s, l2 < n → l2 ≠ l → cs_on B m l2 s = true → N2 (101 + 8 * s + 7) = N (101 + 8 * s + 7)) : LPs (upd (upd B (20 * l + 7) k) (20 * l + 8) b) n m (· ≠ l) ∧ RLs (upd (upd B (20 * l + 7) k) (20 * l + 8) b) N2 n m (· ≠ l) := by
  have cell : ∀ x, x ≠ 20 * l + 7 → x ≠ 20 * l + 8 → upd (upd B (20 * l + 7) k) (20 * l + 8) b x = B x := fun x h1 h2 => by rw [upd_ne _ _ h2, upd_ne _ _ h1]
  have hM : ∀ l2 t, mem (upd (upd B (20 * l + 7) k) (20 * l + 8) b) m l2 t ↔ mem B m l2 t := fun l2 t => by unfold mem; rw [cell _ (by omega) (by omega)]
  have hC : ∀ l2 t, l2 ≠ l → cs_cuts (upd (upd B (20 * l + 7) k) (20 * l + 8) b) l2 t = cs_cuts B l2 t := fun l2 t h => by
    unfold cs_cuts cs_flt
    rw [cell _ (by omega) (by omega), cell _ (by omega) (by omega), cell _ (by omega) (by omega)]
  have hO : ∀ l2, l2 ≠ l → cs_on (upd (upd B (20 * l + 7) k) (20 * l + 8) b) m l2 = cs_on B m l2 := fun l2 h => funext fun t => by
    rw [Bool.eq_iff_iff, on_iff, on_iff, hM, hC l2 t h, cell _ (by omega) (by omega)]
  have hD : ∀ l2, l2 ≠ l → cs_in (upd (upd B (20 * l + 7) k) (20 * l + 8) b) m l2 = cs_in B m l2 := fun l2 h => funext fun t => by
    rw [Bool.eq_iff_iff, in_iff, in_iff, hM, hC l2 t h]
  refine ⟨fun l2 h2 hne => lpc_fr (hL l2 h2 hne) (cell _ (by omega) (by omega)) (cell _ (by omega) (by omega)) (cell _ (by omega) (by omega)) (cell _ (by omega) (by omega)) (cell _ (by omega) (by omega)) (hO l2 hne) (hD l2 hne) (fun e _ _ _ _ => ⟨cell _ (by omega) (by omega), cell _ (by omega) (by omega)⟩), fun l2 h2 hne => rlo_fr (hR l2 h2 hne) (hM l2) (fun t => by rw [hO l2 hne]) (fun t _ => ?_) (fun t q => cell _ (by omega) (by omega)) (fun t q => hN2 l2 t h2 hne q)⟩
  unfold pty
  rw [cell _ (by omega) (by omega), cell _ (by omega) (by omega), cell _ (by omega) (by omega)]
theorem stl_sp {l : Nat} {k b : Int32} (hl : l < 5) : stl B (upd (upd B (20 * l + 7) k) (20 * l + 8) b) := (stl_upd (st_lo hl (by decide) (by decide))).trans (stl_upd (st_lo hl (by decide) (by decide)))
theorem bz_sp {l : Nat} {k b : Int32} (hl : l < 5) (hb : b = 0 ∨ b = 1) (Z : bz B) : bz (upd (upd B (20 * l + 7) k) (20 * l + 8) b) := bz_upd (bz_upd Z (Or.inr ⟨fun _ _ => ⟨by omega, by omega⟩, fun _ _ => ⟨by omega, by omega, by omega⟩⟩)) (Or.inl hb)
theorem S_break {l : Nat} {k b : Int32} (I : Iv B N n m) (hl : l < n) (hb : b = 0 ∨ b = 1) : Iv (cs_break B n m l k b) (mf_fault N m l (nt (N (20 * l + 5))) k b) n m := by
  have hn := I.1.2.1
  have hm := I.1.2.2.2.1
  obtain ⟨h1, h2⟩ := F_fr (k := k) (b := b) (N2 := upd (upd N (20 * l + 7) k) (20 * l + 8) b) hn hm hl (LP_ne (l := l) I.2.2.2.1) (RL_ne (l := l) I.2.2.2.2.1) (fun l2 s _ _ _ => by rw [upd_ne _ _ (by omega), upd_ne _ _ (by omega)])
  unfold cs_break mf_fault
  refine Iv_end I hl (stl_sp (by omega)) (bz_sp (by omega) hb I.2.1) (ag_upd (ag_upd I.2.2.1 _ _) _ _) h1 h2 ?_ ((zfr_upd (Or.inl (by omega))).trans (zfr_upd (Or.inl (by omega))))
  rw [upd_ne _ _ (by omega), upd_ne _ _ (by omega)]
  rcases hE_of I hl with h | ⟨a, b2, c, d⟩
  · exact Or.inl h
  · exact Or.inr ⟨a, b2, c, by rw [upd_ne _ _ (by omega), upd_ne _ _ (by omega)]; exact d⟩
theorem mcut_7 {l i s : Nat} {v : Int32} (hl : l < 5) : mf_cut (upd N (101 + 8 * i + 7) v) l s = mf_cut N l s := by
  unfold mf_cut
  rw [upd_ne _ _ (by omega), upd_ne _ _ (by omega), upd_ne _ _ (by omega)]
theorem fl_ch {l : Nat} (hl : l < 5) : ∀ (k i : Nat) (N : Nat → Int32) (x : Nat), mf_fl l k i N x = N x ∨ ∃ s, i ≤ s ∧ s < i + k ∧ N (101 + 8 * s + 1) = nI l ∧ mf_cut N l s ≠ 0 ∧ x = 101 + 8 * s + 7
  | 0, _, _, _ => Or.inl rfl
  | k + 1, i, N, x => by
    unfold mf_fl
    by_cases h : N (101 + 8 * i + 1) = nI l
    · rw [if_pos h]
      by_cases hc : mf_cut N l i = 0
      · rw [if_pos hc]
        rcases fl_ch hl k (i + 1) N x with q | ⟨s, a, b, c⟩
        · exact Or.inl q
        · exact Or.inr ⟨s, by omega, by omega, c⟩
      · rw [if_neg hc]
        rcases fl_ch hl k (i + 1) (upd N (101 + 8 * i + 7) 0) x with q | ⟨s, a, b, c, d, e⟩
        · by_cases hx : x = 101 + 8 * i + 7
          · exact Or.inr ⟨i, Nat.le_refl i, by omega, h, hc, hx⟩
          · rw [upd_ne _ _ hx] at q; exact Or.inl q
        · rw [upd_ne _ _ (by omega)] at c
          rw [mcut_7 hl] at d
          exact Or.inr ⟨s, by omega, by omega, c, d, e⟩
    · rw [if_neg h]
      rcases fl_ch hl k (i + 1) N x with q | ⟨s, a, b, c⟩
      · exact Or.inl q
      · exact Or.inr ⟨s, by omega, by omega, c⟩
theorem S_fl {l : Nat} (I : Iv B N n m) (hl : l < n) : Iv B (mf_fl l m 0 N) n m := by
  have hI := I
  obtain ⟨G, Z, A, L, R, zz, dd⟩ := I
  have hn := G.2.1
  have hm := G.2.2.2.1
  have fc := fl_ch (show l < 5 by omega) m 0 N
  refine ⟨G, Z, fun x hx => ?_, L, fun l2 h2 _ => ?_, ?_, dd⟩
  · rcases fc x with q | ⟨s, _, b, _, _, e⟩
    · rw [q]; exact A x hx
    · subst e; exact absurd hx (nus_7 hn (by omega))
  · refine rlo_fr (R l2 h2 trivial) (fun t => Iff.rfl) (fun t => rfl) (fun t _ => Iff.rfl) (fun t _ => rfl) (fun t q => ?_)
    obtain ⟨q1, q2, q3⟩ := on_iff.1 q
    refine (fc _).resolve_right (fun ⟨s, _, b, c, d, e⟩ => ?_)
    have : s = t := by omega
    subst this
    rw [ag_s A q1.1 (by omega) (by omega) (by omega)] at c
    have : l = l2 := nI_inj (c.symm.trans q1.2) (by omega) (by omega)
    subst this
    exact d ((rd_cut A Z hn hl q1.1).trans q3)
  · refine zl_fr zz (fun x a b => (fc x).resolve_right (fun ⟨s, _, _, _, _, e⟩ => by omega))
theorem fn_eq {l : Nat} (hl : l < 5) : ∀ (k i : Nat) (N : Nat → Int32), mf_fn l k i N = sumF (fun j => if N (101 + 8 * j + 1) = nI l then (if mf_cut N l j = 0 then 0 else 1) else 0) k i
  | 0, _, _ => rfl
  | k + 1, i, N => by
    rw [mf_fn, sumF, fn_eq hl k (i + 1)]
    congr 1
    refine sumF_congr k (i + 1) (fun j _ _ => ?_)
    by_cases h : N (101 + 8 * i + 1) = nI l
    · rw [if_pos h]
      by_cases hc : mf_cut N l i = 0
      · rw [if_pos hc]
      · rw [if_neg hc, upd_ne _ _ (by omega), mcut_7 hl]
    · rw [if_neg h]
theorem rd_fn {l : Nat} (A : ag B N n m) (Z : bz B) (hn : n ≤ 5) (hm16 : m ≤ 16) (hl : l < n) : mf_fn l m 0 N = sumF (cs_cut1 B m l) 16 0 := by
  rw [fn_eq (by omega)]
  refine sumF_cut hm16 (fun j hj => ?_) (fun j hj => ?_)
  · rw [ag_s A hj (by omega) (by omega) (by omega), rd_cut A Z hn hl hj]
    unfold cs_cut1
    by_cases h : B (101 + 8 * j + 1) = nI l
    · by_cases hc : cs_cuts B l j = 0 <;> simp [mem, h, hj, hc]
    · simp [mem, h]
  · unfold cs_cut1
    rw [if_neg (fun h => absurd h.1.1 (by omega))]
/-! mending -/
theorem md_ch {l : Nat} (hl : l < 5) : ∀ (k i : Nat) (N : Nat → Int32) (a : Int32), (∀ x, (mf_md l k i N a).1 x = N x ∨ ∃ s, i ≤ s ∧ s < i + k ∧ N (101 + 8 * s + 1) = nI l ∧ N (101 + 8 * s + 6) = 1 ∧ mf_cut N l s ≠ 0 ∧ x = 101 + 8 * s + 7) ∧ (∀ s, i ≤ s → s < i + k → N (101 + 8 * s + 1) = nI l → N (101 + 8 * s + 6) = 1 → mf_cut N l s ≠ 0 → (mf_md l k i N a).1 (101 + 8 * s + 7) = 3 ∧ (mf_md l k i N a).2 = 1) ∧ ((∀ s, i ≤ s → s < i + k → N (101 + 8 * s + 1) = nI l → N (101 + 8 * s + 6) = 1 → mf_cut N l s = 0) → (mf_md l k i N a).2 = a) ∧ (a = 1 → (mf_md l k i N a).2 = 1)
  | 0, i, N, a => ⟨fun x => Or.inl rfl, fun s h1 h2 => absurd h1 (by omega), fun _ => rfl, fun h => h⟩
  | k + 1, i, N, a => by
    have skip : ¬ (N (101 + 8 * i + 1) = nI l ∧ N (101 + 8 * i + 6) = 1 ∧ mf_cut N l i ≠ 0) → (mf_md l (k + 1) i N a) = mf_md l k (i + 1) N a := fun h => by
      rw [mf_md]
      by_cases h1 : N (101 + 8 * i + 1) = nI l
      · rw [if_pos h1]
        by_cases h2 : N (101 + 8 * i + 6) = 1
        · rw [if_pos h2]
          by_cases h3 : mf_cut N l i = 0
          · rw [if_pos h3]
          · exact absurd ⟨h1, h2, h3⟩ h
        · rw [if_neg h2]
      · rw [if_neg h1]
    by_cases h : N (101 + 8 * i + 1) = nI l ∧ N (101 + 8 * i + 6) = 1 ∧ mf_cut N l i ≠ 0
    · have e : mf_md l (k + 1) i N a = mf_md l k (i + 1) (upd N (101 + 8 * i + 7) 3) 1 := by
        rw [mf_md, if_pos h.1, if_pos h.2.1, if_neg h.2.2]
      rw [e]
      obtain ⟨p1, p2, p3, p4⟩ := md_ch hl k (i + 1) (upd N (101 + 8 * i + 7) 3) 1
      have u1 : ∀ s, upd N (101 + 8 * i + 7) 3 (101 + 8 * s + 1) = N (101 + 8 * s + 1) := fun s => upd_ne _ _ (by omega)
      have u6 : ∀ s, upd N (101 + 8 * i + 7) 3 (101 + 8 * s + 6) = N (101 + 8 * s + 6) := fun s => upd_ne _ _ (by omega)
      simp only [u1, u6, mcut_7 hl] at p1 p2 p3
      refine ⟨fun x => ?_, fun s a1 a2 a3 a4 a5 => ?_, fun hall => ?_, fun _ => p4 rfl⟩
      · rcases p1 x with q | ⟨s, q1, q2, q3⟩
        · by_cases hx : x = 101 + 8 * i + 7
          · exact Or.inr ⟨i, Nat.le_refl i, by omega, h.1, h.2.1, h.2.2, hx⟩
          · rw [upd_ne _ _ hx] at q; exact Or.inl q
        · exact Or.inr ⟨s, by omega, by omega, q3⟩
      · by_cases hs : s = i
        · subst hs
          refine ⟨?_, p4 rfl⟩
          rcases p1 (101 + 8 * s + 7) with q | ⟨s2, q1, q2, _, _, _, q3⟩
          · rw [q, upd_self]
          · omega
        · exact p2 s (by omega) (by omega) a3 a4 a5
      · exact absurd (hall i (Nat.le_refl i) (by omega) h.1 h.2.1) h.2.2
    · rw [skip h]
      obtain ⟨p1, p2, p3, p4⟩ := md_ch hl k (i + 1) N a
      refine ⟨fun x => ?_, fun s a1 a2 a3 a4 a5 => ?_, fun hall => p3 (fun s b1 b2 => hall s (by omega) (by omega)), p4⟩
      · rcases p1 x with q | ⟨s, q1, q2, q3⟩
        · exact Or.inl q
        · exact Or.inr ⟨s, by omega, by omega, q3⟩
      · by_cases hs : s = i
        · subst hs; exact absurd ⟨a3, a4, a5⟩ h
        · exact p2 s (by omega) (by omega) a3 a4 a5
theorem S_mend {l : Nat} (I : Iv B N n m) (hl : l < n) : Iv (cs_mend B n m l) (mf_mend N m l (nt (N (20 * l + 5)))) n m := by
  have hI := I
  obtain ⟨G, Z, A, L, R, zz, dd⟩ := I
  have hn := G.2.1
  have hm := G.2.2.2.1
  have hl5 : l < 5 := by omega
  have hlp := L l hl trivial
  have hrl := R l hl trivial
  obtain ⟨p1, p2, p3, p4⟩ := md_ch hl5 m 0 N 0
  have hX : ∀ s, s < m → (N (101 + 8 * s + 1) = nI l ∧ N (101 + 8 * s + 6) = 1 ∧ mf_cut N l s ≠ 0 ↔ mem B m l s ∧ B (101 + 8 * s + 6) ≠ 0 ∧ cs_cuts B l s ≠ 0) := fun s hs => by
    rw [ag_s A hs (by omega) (by omega) (by omega), ag_s A hs (by omega) (by omega) (by omega), rd_cut A Z hn hl hs]
    rcases (Z.2 s (by omega)).2.1 with q | q <;> simp [mem, hs, q]
  have mdx : ∀ x, (∀ s, x ≠ 101 + 8 * s + 7) → (mf_md l m 0 N 0).1 x = N x := fun x hx => (p1 x).resolve_right (fun ⟨s, _, _, _, _, _, e⟩ => hx s e)
  have mdon : ∀ l2 s, l2 < n → cs_on B m l2 s = true → (mf_md l m 0 N 0).1 (101 + 8 * s + 7) = N (101 + 8 * s + 7) := fun l2 s h2 q => by
    obtain ⟨q1, q2, q3⟩ := on_iff.1 q
    refine (p1 _).resolve_right (fun ⟨t, _, a, b, c, d, e⟩ => ?_)
    have : t = s := by omega
    subst this
    obtain ⟨r1, r2, r3⟩ := (hX t q1.1).1 ⟨b, c, d⟩
    have : l = l2 := nI_inj (r1.2.symm.trans q1.2) (by omega) (by omega)
    subst this
    exact r3 q3
  have AC : ag (cs_clear B l) (upd (upd (mf_md l m 0 N 0).1 (20 * l + 7) (-1)) (20 * l + 8) 0) n m := by
    unfold cs_clear
    refine ag_upd (ag_upd (fun x hx => ?_) _ _) _ _
    rw [show (mf_md l m 0 N 0).1 x = N x from (p1 x).resolve_right (fun ⟨s, _, b, _, _, _, e⟩ => by subst e; exact nus_7 hn (by omega) hx)]
    exact A x hx
  have zN : zfr N (upd (upd (mf_md l m 0 N 0).1 (20 * l + 7) (-1)) (20 * l + 8) 0) n := by
    refine zfr.trans (fun x a b => mdx x (fun s => by omega)) ((zfr_upd (Or.inl (by omega))).trans (zfr_upd (Or.inl (by omega))))
  obtain ⟨hL1, hR1⟩ := F_fr (k := -1) (b := 0) (N2 := upd (upd (mf_md l m 0 N 0).1 (20 * l + 7) (-1)) (20 * l + 8) 0) hn hm hl (LP_ne (l := l) L) (RL_ne (l := l) R) (fun l2 s h2 _ q => by rw [upd_ne _ _ (by have := (on_iff.1 q).1.1; omega), upd_ne _ _ (by have := (on_iff.1 q).1.1; omega)]; exact mdon l2 s h2 q)
  have ZC : bz (cs_clear B l) := bz_sp hl5 (Or.inl rfl) Z
  have stC : stl B (cs_clear B l) := stl_sp hl5
  have cell : ∀ x, x ≠ 20 * l + 7 → x ≠ 20 * l + 8 → cs_clear B l x = B x := fun x h1 h2 => by unfold cs_clear; rw [upd_ne _ _ h2, upd_ne _ _ h1]
  have c7 : cs_clear B l (20 * l + 7) = -1 := by unfold cs_clear; rw [upd_ne _ _ (by omega), upd_self]
  have cutC : ∀ t, cs_cuts (cs_clear B l) l t = 0 := fun t => by unfold cs_cuts cs_flt; rw [c7, if_pos rfl, if_pos rfl]
  have memC : ∀ t, mem (cs_clear B l) m l t ↔ mem B m l t := fun t => by unfold mem; rw [cell _ (by omega) (by omega)]
  have onC : ∀ t, cs_on (cs_clear B l) m l t = true ↔ mem B m l t ∧ B (101 + 8 * t + 6) ≠ 0 := fun t => by
    rw [on_iff, memC, cell _ (by omega) (by omega), cutC]; simp
  have inC : ∀ t, cs_in (cs_clear B l) m l t = true ↔ mem B m l t := fun t => by rw [in_iff, memC, cutC]; simp
  have onx' : ∀ x, onx (cs_on B m) l x → onx (cs_on (cs_clear B l) m) l x := fun x ⟨t, h1, h2⟩ => ⟨t, (onC t).2 ⟨(on_iff.1 h1).1, (on_iff.1 h1).2.1⟩, h2⟩
  have inx' : ∀ x, onx (cs_in B m) l x → onx (cs_in (cs_clear B l) m) l x := fun x ⟨t, h1, h2⟩ => ⟨t, (inC t).2 (in_iff.1 h1).1, h2⟩
  have cc1 := cell (20 * l + 1) (by omega) (by omega)
  have cc3 := cell (20 * l + 3) (by omega) (by omega)
  have cc4 := cell (20 * l + 4) (by omega) (by omega)
  have cc5 := cell (20 * l + 5) (by omega) (by omega)
  have cc6 := cell (20 * l + 6) (by omega) (by omega)
  have lnkC : ∀ k, lnk B n l k → lnk (cs_clear B l) n l k := fun k ⟨e2, a1, a2, a3, a4, a5⟩ => ⟨e2, a1, a2, cc5.trans a3, (cell _ (by omega) (by omega)).trans a4, (cell _ (by omega) (by omega)).trans a5⟩
  have nph : upd (upd (mf_md l m 0 N 0).1 (20 * l + 7) (-1)) (20 * l + 8) 0 (20 * l + 1) = B (20 * l + 1) := by
    rw [upd_ne _ _ (by omega), upd_ne _ _ (by omega), mdx _ (fun s => by omega)]; exact ag_l A hl (by omega) (by omega)
  -- who was cut off with the receiver off the hook
  have cor : cs_hasCor B m l = 0 ↔ ∀ s, mem B m l s → B (101 + 8 * s + 6) ≠ 0 → cs_cuts B l s = 0 := by
    unfold cs_hasCor
    constructor
    · intro h s h1 h2
      by_cases h3 : cs_cuts B l s = 0
      · exact h3
      · exfalso
        have : anyF (cs_cor B m l) 16 0 = true := by
          rw [anyF_iff]
          exact ⟨s, by omega, by have := h1.1; omega, by simp [cs_cor, h1, h2, h3]⟩
        rw [if_pos this] at h
        exact absurd h (by decide)
    · intro h
      rw [if_neg]
      intro h2
      obtain ⟨s, _, _, h5⟩ := (anyF_iff 16 0).1 h2
      simp only [cs_cor, Bool.and_eq_true, decide_eq_true_eq] at h5
      exact h5.2.2 (h s h5.1 h5.2.1)
  -- l itself where it goes on
  have keep : (B (20 * l + 1) = 0 ∨ B (20 * l + 1) = 3 ∨ B (20 * l + 1) = 7 → ∀ s, mem B m l s → B (101 + 8 * s + 6) ≠ 0 → cs_cuts B l s = 0) → Iv (cs_clear B l) (upd (upd (mf_md l m 0 N 0).1 (20 * l + 7) (-1)) (20 * l + 8) 0) n m := fun hq => by
    have quiet : (B (20 * l + 1) = 0 ∨ B (20 * l + 1) = 3 ∨ B (20 * l + 1) = 7) → (∀ s, cs_on B m l s = false) → ∀ s, cs_on (cs_clear B l) m l s = false := fun hp h s => by
      by_cases q : cs_on (cs_clear B l) m l s = true
      · obtain ⟨q1, q2⟩ := (onC s).1 q
        have := on_iff.2 ⟨q1, q2, hq hp s q1 q2⟩
        rw [h s] at this; cases this
      · simpa using q
    refine Iv_of hI stC ZC AC (LP_all hL1 ?_) (RL_all hR1 ⟨fun t q1 q2 => ?_, fun t q => ?_⟩) zN
    · obtain ⟨a, b0, b1, b2, b3, b4, b5, b6, b7, b8⟩ := hlp
      rcases a with p | p | p | p | p | p | p | p | p
      · have h := b0 p
        exact lpc_mk0 (cc1.trans p) ⟨cc3.trans h.1, cc4.trans h.2.1, cc5.trans h.2.2.1, cc6.trans h.2.2.2.1, quiet (Or.inl p) h.2.2.2.2⟩
      · have h := b1 p
        exact lpc_mk1 (cc1.trans p) ⟨by rw [cc3]; exact onx' _ h.1, cc4.trans h.2.1, cc5.trans h.2.2.1, cc6.trans h.2.2.2⟩
      · have h := b2 p
        exact lpc_mk2 (cc1.trans p) ⟨by rw [cc3]; exact onx' _ h.1, cc4.trans h.2.1, cc6.trans h.2.2.1, lnkC _ h.2.2.2⟩
      · have h := b3 p
        exact lpc_mk3 (cc1.trans p) ⟨by rw [cc3]; exact inx' _ h.1, cc4.trans h.2.1, cc6.trans h.2.2.1, quiet (Or.inr (Or.inl p)) h.2.2.2.1, lnkC _ h.2.2.2.2⟩
      · have h := b4 p
        exact lpc_mk4 (cc1.trans p) ⟨by rw [cc3]; exact onx' _ h.1, cc4.trans h.2.1, lnkC _ h.2.2⟩
      · have h := b5 p
        exact lpc_mk5 (cc1.trans p) ⟨by rw [cc3]; exact onx' _ h.1, cc4.trans h.2.1, cc5.trans h.2.2.1, cc6.trans h.2.2.2⟩
      · have h := b6 p
        exact lpc_mk6 (cc1.trans p) ⟨by rw [cc3]; exact onx' _ h.1, by rw [cc4]; exact inx' _ h.2.1, cc5.trans h.2.2.1, cc6.trans h.2.2.2⟩
      · have h := b7 p
        exact lpc_mk7 (cc1.trans p) ⟨by rw [cc3]; exact inx' _ h.1, by rw [cc4]; exact inx' _ h.2.1, cc5.trans h.2.2.1, cc6.trans h.2.2.2.1, quiet (Or.inr (Or.inr p)) h.2.2.2.2⟩
      · have h := b8 p
        exact lpc_mk8 (cc1.trans p) ⟨by rw [cc3]; exact inx' _ h.1, by rw [cc4]; exact onx' _ h.2.1, cc5.trans h.2.2.1, cc6.trans h.2.2.2⟩
    · rw [memC] at q1
      rw [cell _ (by omega) (by omega)] at q2
      have := on_iff.1 (hrl.1 t q1 q2)
      exact (onC t).2 ⟨this.1, this.2.1⟩
    · obtain ⟨q1, q2⟩ := (onC t).1 q
      have ht16 : t < 16 := by have := q1.1; omega
      have hp : pty (cs_clear B l) l t ↔ pty B l t := by unfold pty; rw [cc1, cc3, cc4]
      rw [hp, cell (101 + 8 * t + 7) (by omega) (by omega), upd_ne _ _ (show 101 + 8 * t + 7 ≠ 20 * l + 8 by omega), upd_ne _ _ (show 101 + 8 * t + 7 ≠ 20 * l + 7 by omega)]
      by_cases hc : cs_cuts B l t = 0
      · have hon := on_iff.2 ⟨q1, q2, hc⟩
        rw [mdon l t hl hon]
        exact hrl.2 t hon
      · have h3 := (p2 t (by omega) (by have := q1.1; omega) ((hX t q1.1).2 ⟨q1, q2, hc⟩).1 ((hX t q1.1).2 ⟨q1, q2, hc⟩).2.1 ((hX t q1.1).2 ⟨q1, q2, hc⟩).2.2).1
        have hon0 : ¬ cs_on B m l t = true := fun q => hc (on_iff.1 q).2.2
        have h7 : B (101 + 8 * t + 7) = 0 := by
          by_cases q : B (101 + 8 * t + 7) = 0
          · exact q
          · exact absurd (hrl.1 t q1 q) hon0
        have np : ¬ pty B l t := fun hp => by
          have notO : ∀ x, onx (cs_on B m) l x → x ≠ nI t := fun x ⟨u, u1, u2⟩ h => by
            have : u = t := nI_inj (u2.symm.trans h) (by have := (on_iff.1 u1).1.1; omega) (by omega)
            subst this; exact hon0 u1
          have notD : ∀ x, onx (cs_in B m) l x → x ≠ nI t := fun x ⟨u, u1, u2⟩ h => by
            have : u = t := nI_inj (u2.symm.trans h) (by have := (in_iff.1 u1).1.1; omega) (by omega)
            subst this; exact hc (in_iff.1 u1).2
          obtain ⟨a, b0, b1, b2, b3, b4, b5, b6, b7, b8⟩ := hlp
          have n8 : ∀ k : Int32, B (20 * l + 1) = k → k ≠ 8 → ¬ (B (20 * l + 1) = 8 ∧ B (20 * l + 4) = nI t) := fun k h1 h2 h3 => h2 (h1.symm.trans h3.1)
          rcases a with p | p | p | p | p | p | p | p | p
          · rcases hp with h | h
            · rw [(b0 p).1] at h; exact nI_m1 (by omega) h.symm
            · exact n8 0 p (by decide) h
          · exact hp.elim (notO _ (b1 p).1) (n8 1 p (by decide))
          · exact hp.elim (notO _ (b2 p).1) (n8 2 p (by decide))
          · exact hp.elim (notD _ (b3 p).1) (n8 3 p (by decide))
          · exact hp.elim (notO _ (b4 p).1) (n8 4 p (by decide))
          · exact hp.elim (notO _ (b5 p).1) (n8 5 p (by decide))
          · exact hp.elim (notO _ (b6 p).1) (n8 6 p (by decide))
          · exact hp.elim (notD _ (b7 p).1) (n8 7 p (by decide))
          · exact hp.elim (notD _ (b8 p).1) (fun h => notO _ (b8 p).2.1 h.2)
        rw [h3, h7, if_pos rfl]
        exact ⟨fun h => absurd h np, fun _ => rfl⟩
  have fin : Iv (cs_end (cs_clear B l) n m l) (mf_end (upd (upd (mf_md l m 0 N 0).1 (20 * l + 7) (-1)) (20 * l + 8) 0) m l (nt (N (20 * l + 5)))) n m := by
    refine Iv_end hI hl stC ZC AC hL1 hR1 ?_ zN
    rw [cc5]
    rcases hE_of hI hl with h | ⟨a, b2, c, d⟩
    · exact Or.inl h
    · exact Or.inr ⟨a, b2, c, (cell _ (by omega) (by omega)).trans d⟩
  simp only [cs_mend, mf_mend, mf_mt]
  rw [nph]
  by_cases hc : cs_hasCor B m l = 0
  · have hall := cor.1 hc
    have e0 : (mf_md l m 0 N 0).2 = 0 := p3 (fun s _ b1 b2 b3 => by
      have hs : s < m := by omega
      by_cases q : mf_cut N l s = 0
      · exact q
      · obtain ⟨r1, r2, r3⟩ := (hX s hs).1 ⟨b2, b3, q⟩
        exact absurd (hall s r1 r2) r3)
    rw [if_pos hc, if_pos e0]
    exact keep (fun _ => hall)
  · have e1 : (mf_md l m 0 N 0).2 ≠ 0 := by
      have : ∃ s, mem B m l s ∧ B (101 + 8 * s + 6) ≠ 0 ∧ cs_cuts B l s ≠ 0 := by
        by_cases q : ∃ s, mem B m l s ∧ B (101 + 8 * s + 6) ≠ 0 ∧ cs_cuts B l s ≠ 0
        · exact q
        · exfalso
          refine hc (cor.2 (fun s a b => ?_))
          by_cases r : cs_cuts B l s = 0
          · exact r
          · exact absurd ⟨s, a, b, r⟩ q
      obtain ⟨s, a, b, c⟩ := this
      obtain ⟨x1, x2, x3⟩ := (hX s a.1).2 ⟨a, b, c⟩
      rw [(p2 s (by omega) (by have := a.1; omega) x1 x2 x3).2]; decide
    rw [if_neg hc, if_neg e1, cc1]
    have rung : cs_rung (cs_clear B l) l = if B (20 * l + 1) = 3 then 1 else if B (20 * l + 1) = 7 then 1 else 0 := by unfold cs_rung; rw [cc1]
    rw [rung]
    by_cases q0 : B (20 * l + 1) = 0
    · rw [if_pos q0, if_neg (show ¬ B (20 * l + 1) = 3 by rw [q0]; decide), if_pos q0]; exact fin
    · rw [if_neg q0]
      by_cases q3 : B (20 * l + 1) = 3
      · rw [if_pos q3, if_pos q3, if_neg (show ¬ (1 : Int32) = 0 by decide)]; exact fin
      · rw [if_neg q3, if_neg q3, if_neg q0]
        by_cases q7 : B (20 * l + 1) = 7
        · rw [if_pos q7, if_pos q7, if_neg (show ¬ (1 : Int32) = 0 by decide)]; exact fin
        · rw [if_neg q7, if_neg q7, if_pos rfl]
          exact keep (fun h => by rcases h with h | h | h; exact absurd h q0; exact absurd h q3; exact absurd h q7)
end
