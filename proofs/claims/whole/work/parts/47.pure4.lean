/-! the whole relation of the two rows; lifting a receiver -/
def zfr (N N2 : Nat → Int32) (n : Nat) : Prop := ∀ x, 20 * n < x → x ≤ 100 → N2 x = N x
def zl (N : Nat → Int32) (n : Nat) : Prop := ∀ l, n ≤ l → l < 5 → N (20 * l + 1) = 0 ∧ N (20 * l + 2) = 0 ∧ N (20 * l + 6) = 0 ∧ N (20 * l + 8) = 0
def dcd (B : Nat → Int32) (m : Nat) : Prop := ∀ s t, s < m → t < m → s ≠ t → B (101 + 8 * s + 1) = B (101 + 8 * t + 1) → B (101 + 8 * s + 3) ≠ B (101 + 8 * t + 3)
def Iv (B N : Nat → Int32) (n m : Nat) : Prop := cg B n m ∧ bz B ∧ ag B N n m ∧ LPs B n m (fun _ => True) ∧ RLs B N n m (fun _ => True) ∧ zl N n ∧ dcd B m
section
variable {B N : Nat → Int32} {n m : Nat}
theorem zfr.rfl' : zfr N N n := fun _ _ _ => rfl
theorem zfr.trans {N2 N3 : Nat → Int32} (h : zfr N N2 n) (h2 : zfr N2 N3 n) : zfr N N3 n := fun x a b => (h2 x a b).trans (h x a b)
theorem zfr_upd {x : Nat} {v : Int32} (h : x ≤ 20 * n ∨ 100 < x) : zfr N (upd N x v) n := fun y a b => upd_ne _ _ (by omega)
theorem zfr_comes {l : Nat} {p f q e : Int32} (hl : l < n) : zfr N (mf_comes N l p f q e) n := fun y a b => mcomes_ne (by omega)
theorem zfr_inc {k : Nat} (h : 100 < k) : zfr N (cs_inc N k) n := zfr_upd (Or.inr h)
theorem zfr_lv {l k : Nat} {f : Int32} (hl : l < 5) : zfr N (mf_lv l k N f).1 n := fun y a b => by
  rcases (lv_ch hl k N f).1 y with h | ⟨s, _, _, h⟩
  · exact h
  · omega
theorem zfr_leave {l : Nat} (hn : n ≤ 5) (hl : l < n) : zfr N (mf_leave N m l) n := by
  unfold mf_leave
  split
  · exact (zfr_lv (by omega)).trans (zfr_comes hl)
  · exact (zfr_lv (by omega)).trans ((zfr_upd (Or.inr (by omega))).trans (zfr_comes hl))
theorem zfr_end {l e : Nat} (hn : n ≤ 5) (hl : l < n) (he : N (20 * l + 5) = -1 ∨ e < n) : zfr N (mf_end N m l e) n := by
  unfold mf_end mf_far
  split
  · exact zfr_leave hn hl
  · rename_i h
    have he := he.resolve_left h
    split
    · exact (zfr_comes he).trans (zfr_leave hn hl)
    · exact (zfr_comes he).trans (zfr_leave hn hl)
theorem zl_fr {N2 : Nat → Int32} (h : zl N n) (f : zfr N N2 n) : zl N2 n := fun l a b => by
  rw [f _ (by omega) (by omega), f _ (by omega) (by omega), f _ (by omega) (by omega), f _ (by omega) (by omega)]
  exact h l a b
theorem dcd_stl {B2 : Nat → Int32} (hm : m ≤ 16) (h : dcd B m) (f : stl B B2) : dcd B2 m := fun s t a b c d => by
  rw [f _ (st_sub (by omega) (by decide) (by decide)), f _ (st_sub (by omega) (by decide) (by decide))] at d ⊢
  exact h s t a b c d
theorem Iv_of {B2 N2 : Nat → Int32} (I : Iv B N n m) (f : stl B B2) (Z : bz B2) (A : ag B2 N2 n m) (L : LPs B2 n m (fun _ => True)) (R : RLs B2 N2 n m (fun _ => True)) (z : zfr N N2 n) : Iv B2 N2 n m := ⟨cg_stl f I.1, Z, A, L, R, zl_fr I.2.2.2.2.2.1 z, dcd_stl I.1.2.2.2.1 I.2.2.2.2.2.2 f⟩
theorem upd_id (f : Nat → Int32) {k : Nat} {v : Int32} (h : f k = v) : upd f k v = f := by
  funext x
  by_cases e : x = k
  · subst e; rw [upd_self, h]
  · rw [upd_ne _ _ e]
theorem comes_f (B : Nat → Int32) (l : Nat) (g p f q e : Int32) : mf_comes (upd B (20 * l + 3) g) l p f q e = mf_comes B l p f q e := by
  funext x
  simp only [mf_comes, upd]
  by_cases h : x = 20 * l + 3 <;> simp [h]
theorem cw_eq (B : Nat → Int32) (l : Nat) (p f : Int32) : cs_cw B l p f = mf_comes B l p (if p = 0 then -1 else f) (if p ≥ 6 then B (20 * l + 4) else -1) (if p < 2 then -1 else if p ≤ 4 then B (20 * l + 5) else -1) := by
  unfold cs_cw
  rw [comeTo_eq, comes_f, upd_self, upd_ne _ _ (show 20 * l + 4 ≠ 20 * l + 3 by omega), upd_ne _ _ (show 20 * l + 5 ≠ 20 * l + 3 by omega)]
/-- the reference's turns find what they need -/
theorem Iv_mi (I : Iv B N n m) : mi N n m := by
  obtain ⟨G, Z, A, L, R, zz, dd⟩ := I
  have hn := G.2.1
  have hm := G.2.2.2.1
  refine ⟨ag_cg A G, fun l hl => ?_⟩
  rw [ag_l A hl (by omega) (by omega), ag_l A hl (by omega) (by omega), ag_l A hl (by omega) (by omega), ag_l A hl (by omega) (by omega)]
  obtain ⟨a, b0, b1, b2, b3, b4, b5, b6, b7, b8⟩ := L l hl trivial
  have onO : ∀ x, onx (cs_on B m) l x → (ok m x ∧ x ≠ -1) := fun x ⟨s, h, e⟩ => by
    have := (on_iff.1 h).1.1
    exact ⟨Or.inr ⟨s, this, e⟩, by rw [e]; exact nI_m1 (by omega)⟩
  have onD : ∀ x, onx (cs_in B m) l x → (ok m x ∧ x ≠ -1) := fun x ⟨s, h, e⟩ => by
    have := (in_iff.1 h).1.1
    exact ⟨Or.inr ⟨s, this, e⟩, by rw [e]; exact nI_m1 (by omega)⟩
  have lk_ : ∀ k, lnk B n l k → (ok n (B (20 * l + 5)) ∧ B (20 * l + 5) ≠ -1) := fun k ⟨e, h1, h2, h3, _, _⟩ => ⟨Or.inr ⟨e, h1, h3⟩, by rw [h3]; exact nI_m1 (by omega)⟩
  refine ⟨a, ?_, ?_, ?_, fun p => ⟨(lk_ _ (b3 p).2.2.2.2).2, (onD _ (b3 p).1).2⟩, fun p => ⟨(onD _ (b7 p).1).2, (onD _ (b7 p).2.1).2⟩, fun p => ⟨(lk_ _ (b4 p).2.2).2, (onO _ (b4 p).1).2⟩, fun p => (b8 p).2.2.1⟩
  · rcases a with p | p | p | p | p | p | p | p | p
    · exact Or.inl (b0 p).2.2.1
    · exact Or.inl (b1 p).2.2.1
    · exact (lk_ _ (b2 p).2.2.2).1
    · exact (lk_ _ (b3 p).2.2.2.2).1
    · exact (lk_ _ (b4 p).2.2).1
    · exact Or.inl (b5 p).2.2.1
    · exact Or.inl (b6 p).2.2.1
    · exact Or.inl (b7 p).2.2.1
    · exact Or.inl (b8 p).2.2.1
  · rcases a with p | p | p | p | p | p | p | p | p
    · exact Or.inl (b0 p).1
    · exact (onO _ (b1 p).1).1
    · exact (onO _ (b2 p).1).1
    · exact (onD _ (b3 p).1).1
    · exact (onO _ (b4 p).1).1
    · exact (onO _ (b5 p).1).1
    · exact (onO _ (b6 p).1).1
    · exact (onD _ (b7 p).1).1
    · exact (onD _ (b8 p).1).1
  · rcases a with p | p | p | p | p | p | p | p | p
    · exact Or.inl (b0 p).2.1
    · exact Or.inl (b1 p).2.1
    · exact Or.inl (b2 p).2.1
    · exact Or.inl (b3 p).2.1
    · exact Or.inl (b4 p).2.1
    · exact Or.inl (b5 p).2.1
    · exact (onD _ (b6 p).2.1).1
    · exact (onD _ (b7 p).2.1).1
    · exact (onO _ (b8 p).2.1).1
/-- roles when s, who was on the hook, becomes a party -/
theorem rl_new {l s : Nat} {B2 N2 : Nat → Int32} (hl : l < 5) (hm : m ≤ 16) (h : rlo B N m l) (hs : cs_in B m l s = true) (smC : sm (upd (upd B (101 + 8 * s + 6) 1) (101 + 8 * s + 7) 0) B2 m) (h7 : ∀ t, t < m → B2 (101 + 8 * t + 7) = upd (upd B (101 + 8 * s + 6) 1) (101 + 8 * s + 7) 0 (101 + 8 * t + 7)) (hN : ∀ t, t < m → N2 (101 + 8 * t + 7) = upd (upd N (101 + 8 * s + 6) 1) (101 + 8 * s + 7) 0 (101 + 8 * t + 7)) (hP : ∀ t, t ≠ s → cs_on B m l t = true → (pty B2 l t ↔ pty B l t)) (hPs : pty B2 l s) : rlo B2 N2 m l := by
  have hO : ∀ t, cs_on B2 m l t = if t = s then true else cs_on B m l t := fun t => by
    rw [sm_on smC hl, on6 (l := l) hl]
    by_cases e : t = s
    · subst e; rw [if_pos rfl, if_pos rfl, hs]; rfl
    · rw [if_neg e, if_neg e]
  have hM : ∀ t, mem B2 m l t ↔ mem B m l t := fun t => by
    rw [sm_mem smC]; unfold mem; rw [upd_ne _ _ (by omega), upd_ne _ _ (by omega)]
  refine ⟨fun t q1 q2 => ?_, fun t q => ?_⟩
  · rw [hO]
    by_cases e : t = s
    · rw [if_pos e]
    · rw [if_neg e]
      rw [hM] at q1
      rw [h7 t q1.1, upd_ne _ _ (by omega), upd_ne _ _ (by omega)] at q2
      exact h.1 t q1 q2
  · rw [hO] at q
    by_cases e : t = s
    · subst e
      have hts := (in_iff.1 hs).1.1
      rw [h7 t hts, hN t hts, upd_self, upd_self]
      exact ⟨fun _ => ⟨rfl, rfl⟩, fun h => absurd hPs h⟩
    · rw [if_neg e] at q
      have ht := (on_iff.1 q).1.1
      rw [h7 t ht, hN t ht, upd_ne _ _ (by omega), upd_ne _ _ (by omega), upd_ne _ _ (by omega), upd_ne _ _ (by omega), hP t e q]
      exact h.2 t q
end
