/-! other changes of the two rows: a pigeonhole, ranks, soft cells, a new loop, a new subscriber -/
theorem cnt_rm {q : Nat → Bool} {j0 : Nat} : ∀ (k i : Nat), cntN q k i ≤ cntN (fun j => q j && decide (j ≠ j0)) k i + 1
  | 0, _ => by simp [cntN]
  | k + 1, i => by
    rw [cntN, cntN]
    by_cases e : i = j0
    · have h := cntN_congr (f := q) (g := fun j => q j && decide (j ≠ j0)) k (i + 1) (fun j h1 h2 => by
        have : j ≠ j0 := by omega
        simp [this])
      rw [← h]
      split <;> split <;> omega
    · have h := cnt_rm (q := q) (j0 := j0) k (i + 1)
      by_cases q1 : q i = true
      · rw [if_pos q1, if_pos (by simp [q1, e])]; omega
      · rw [if_neg q1, if_neg (by simp [q1])]; omega
theorem cnt_pig {f : Nat → Nat} : ∀ (C : Nat) (q : Nat → Bool) (k i : Nat), (∀ j, i ≤ j → j < i + k → q j = true → 1 ≤ f j ∧ f j ≤ C) → (∀ a b, i ≤ a → a < i + k → i ≤ b → b < i + k → q a = true → q b = true → f a = f b → a = b) → cntN q k i ≤ C
  | 0, q, k, i, h, _ => by
    rw [cntN_zero k i (fun j h1 h2 => by
      cases hq : q j with
      | false => rfl
      | true => have := h j h1 h2 hq; omega)]
    exact Nat.le_refl 0
  | C + 1, q, k, i, h, inj => by
    by_cases hx : ∃ j0, i ≤ j0 ∧ j0 < i + k ∧ q j0 = true ∧ f j0 = C + 1
    · obtain ⟨j0, a1, a2, a3, a4⟩ := hx
      have h1 := cnt_rm (q := q) (j0 := j0) k i
      have h2 := cnt_pig (f := f) C (fun j => q j && decide (j ≠ j0)) k i (fun j b1 b2 b3 => by
        simp only [Bool.and_eq_true, decide_eq_true_eq] at b3
        have r := h j b1 b2 b3.1
        refine ⟨r.1, ?_⟩
        have : f j ≠ C + 1 := fun e => b3.2 (inj j j0 b1 b2 a1 a2 b3.1 a3 (e.trans a4.symm))
        omega) (fun a b c1 c2 c3 c4 c5 c6 c7 => by
        simp only [Bool.and_eq_true, decide_eq_true_eq] at c5 c6
        exact inj a b c1 c2 c3 c4 c5.1 c6.1 c7)
      omega
    · have h2 := cnt_pig (f := f) C q k i (fun j b1 b2 b3 => by
        have r := h j b1 b2 b3
        refine ⟨r.1, ?_⟩
        have : f j ≠ C + 1 := fun e => hx ⟨j, b1, b2, b3, e⟩
        omega) inj
      omega
theorem code_nat {x : Int32} (h1 : 1 ≤ x) (h2 : x ≤ 14) : ∃ k, 1 ≤ k ∧ k ≤ 14 ∧ x = nI k := by
  have e : lk 15 x = some x.toNatClampNeg := by
    unfold lk
    have a : ¬ x < 0 := by
      rw [Int32.lt_iff_toInt_lt]; rw [Int32.le_iff_toInt_le] at h1
      have e1 : (1 : Int32).toInt = 1 := rfl
      have e0 : (0 : Int32).toInt = 0 := rfl
      omega
    have b : x.toNatClampNeg < 15 := by
      rw [Int32.le_iff_toInt_le] at h2
      have e1 : (14 : Int32).toInt = 14 := rfl
      have : x.toNatClampNeg = x.toInt.toNat := rfl
      omega
    rw [if_neg a, if_pos b]
  obtain ⟨r1, r2⟩ := lk_some e
  refine ⟨x.toNatClampNeg, ?_, by omega, r1⟩
  rw [Int32.le_iff_toInt_le] at h1
  have e1 : (1 : Int32).toInt = 1 := rfl
  have : x.toNatClampNeg = x.toInt.toNat := rfl
  omega
theorem bef_irr (B : Nat → Int32) (s : Nat) : cs_bef B s s = 0 := by
  unfold cs_bef
  rw [if_neg (fun h => Int32.lt_irrefl h), if_neg (fun h => h rfl), if_pos (Int32.le_refl _)]
section
variable {B N : Nat → Int32} {n m : Nat}
/-- fewer than 14 come ahead of a subscriber, for their codes are apart -/
theorem rank_lt (I : Iv B N n m) : ∀ l s, mem B m l s → cs_rank B m l s < 14 := fun l s hs => by
  obtain ⟨G, Z, A, L, R, zz, dd⟩ := I
  obtain ⟨g1, g2, g3, g4, g5, g6⟩ := G
  have cd : ∀ j, j < m → ∃ k, 1 ≤ k ∧ k ≤ 14 ∧ B (101 + 8 * j + 3) = nI k := fun j hj => code_nat (g6 j hj).1 (g6 j hj).2
  obtain ⟨ks, s1, s2, s3⟩ := cd s hs.1
  have fv : ∀ j, j < m → ∀ k, B (101 + 8 * j + 3) = nI k → k ≤ 14 → nt (B (101 + 8 * j + 3)) = k := fun j _ k e hk => by rw [e]; exact nt_nI (by omega)
  have key : cs_rank B m l s ≤ 13 := by
    refine cnt_pig (f := fun j => if nt (B (101 + 8 * j + 3)) > ks then nt (B (101 + 8 * j + 3)) - 1 else nt (B (101 + 8 * j + 3))) 13 (cs_ahead B m l s) 16 0 (fun j _ h2 h3 => ?_) (fun a b _ _ _ _ h5 h6 h7 => ?_)
    · simp only [cs_ahead, Bool.and_eq_true, decide_eq_true_eq] at h3
      obtain ⟨hj, hb⟩ := h3
      obtain ⟨k, k1, k2, k3⟩ := cd j hj.1
      have hne : j ≠ s := fun e => hb (by rw [e]; exact bef_irr B s)
      have hk : k ≠ ks := fun e => dd j s hj.1 hs.1 hne (hj.2.trans hs.2.symm) (by rw [k3, s3, e])
      have e := fv j hj.1 k k3 k2
      simp only [e]
      split <;> omega
    · simp only [cs_ahead, Bool.and_eq_true, decide_eq_true_eq] at h5 h6
      obtain ⟨ha, hba⟩ := h5
      obtain ⟨hb, hbb⟩ := h6
      obtain ⟨ka, a1, a2, a3⟩ := cd a ha.1
      obtain ⟨kb, b1, b2, b3⟩ := cd b hb.1
      have na : a ≠ s := fun e => hba (by rw [e]; exact bef_irr B s)
      have nb : b ≠ s := fun e => hbb (by rw [e]; exact bef_irr B s)
      have ea : ka ≠ ks := fun e => dd a s ha.1 hs.1 na (ha.2.trans hs.2.symm) (by rw [a3, s3, e])
      have eb : kb ≠ ks := fun e => dd b s hb.1 hs.1 nb (hb.2.trans hs.2.symm) (by rw [b3, s3, e])
      have fa := fv a ha.1 ka a3 a2
      have fb := fv b hb.1 kb b3 b2
      simp only [fa, fb] at h7
      have hk : ka = kb := by split at h7 <;> split at h7 <;> omega
      by_cases e : a = b
      · exact e
      · exact absurd (show B (101 + 8 * a + 3) = B (101 + 8 * b + 3) by rw [a3, b3, hk]) (dd a b ha.1 hb.1 e (ha.2.trans hb.2.symm))
  omega
theorem rank_ltN (I : Iv B N n m) : ∀ l i, i < m → N (101 + 8 * i + 1) = nI l → cntN (mf_ah N l i) m 0 < 14 := fun l i hi hh => by
  rw [rd_rank I.2.2.1 I.1.2.2.2.1 hi]
  refine rank_lt I l i ⟨hi, ?_⟩
  rw [← ag_s I.2.2.1 hi (by omega) (by omega) (by omega)]; exact hh
theorem Iv_cong {B2 N2 : Nat → Int32} (I : Iv B N n m) (hB : ∀ x, x < 237 → B2 x = B x) (hN : ∀ x, x < 237 → N2 x = N x) : Iv B2 N2 n m := by
  obtain ⟨G, Z, A, L, R, zz, dd⟩ := I
  have hn := G.2.1
  have hm := G.2.2.2.1
  have S : sm B B2 m := ⟨fun s hs => ⟨hB _ (by omega), hB _ (by omega), hB _ (by omega)⟩, fun l hl => ⟨hB _ (by omega), hB _ (by omega)⟩⟩
  have f : stl B B2 := fun x hx => hB x (by unfold st at hx; omega)
  refine ⟨cg_stl f G, ?_, fun x hx => ?_, fun l hl _ => ?_, fun l hl _ => ?_, fun l a b => ?_, dcd_stl hm dd f⟩
  · refine ⟨fun l hl => ?_, fun s hs => ?_⟩
    · rw [hB _ (by omega), hB _ (by omega)]; exact Z.1 l hl
    · rw [hB _ (by omega), hB _ (by omega), hB _ (by omega)]; exact Z.2 s hs
  · have hx2 : x < 237 := by unfold us at hx; omega
    rw [hB x hx2, hN x hx2]; exact A x hx
  · exact lpc_fr (L l hl trivial) (hB _ (by omega)) (hB _ (by omega)) (hB _ (by omega)) (hB _ (by omega)) (hB _ (by omega)) (sm_on S (by omega)) (sm_in S (by omega)) (fun e he _ _ _ => ⟨hB _ (by omega), hB _ (by omega)⟩)
  · refine rlo_fr (R l hl trivial) (fun s => sm_mem S) (fun s => by rw [sm_on S (by omega)]) (fun s _ => ?_) (fun s q => hB _ (by have := q.1; omega)) (fun s q => hN _ (by have := (on_iff.1 q).1.1; omega))
    unfold pty; rw [hB _ (by omega), hB _ (by omega), hB _ (by omega)]
  · rw [hN _ (by omega), hN _ (by omega), hN _ (by omega), hN _ (by omega)]; exact zz l a b
/-- cells that no phase and no role looks at -/
def sf (x : Nat) : Prop := (x ≤ 100 ∧ x ≠ 0 ∧ ((x - 1) % 20 = 1 ∨ 8 ≤ (x - 1) % 20)) ∨ (102 ≤ x ∧ x < 230 ∧ ((x - 102) % 8 = 2 ∨ (x - 102) % 8 = 3 ∨ (x - 102) % 8 = 4 ∨ (x - 102) % 8 = 7)) ∨ 230 ≤ x
theorem Iv_soft {B2 N2 : Nat → Int32} (I : Iv B N n m) (hB : ∀ x, ¬ sf x → B2 x = B x) (hN : ∀ s, s < 16 → N2 (101 + 8 * s + 7) = N (101 + 8 * s + 7)) (A : ag B2 N2 n m) (z : zfr N N2 n) (hc : ∀ s, s < m → 1 ≤ B2 (101 + 8 * s + 3) ∧ B2 (101 + 8 * s + 3) ≤ 14) (hp : ∀ s, s < 16 → B2 (101 + 8 * s + 4) = 0 ∨ B2 (101 + 8 * s + 4) = 1) (hd : dcd B2 m) : Iv B2 N2 n m := by
  obtain ⟨G, Z, A0, L, R, zz, dd⟩ := I
  have hn := G.2.1
  have hm := G.2.2.2.1
  have S : sm B B2 m := ⟨fun s hs => ⟨hB _ (by unfold sf; omega), hB _ (by unfold sf; omega), hB _ (by unfold sf; omega)⟩, fun l hl => ⟨hB _ (by unfold sf; omega), hB _ (by unfold sf; omega)⟩⟩
  refine ⟨⟨(hB 0 (by unfold sf; omega)).trans G.1, hn, (hB 101 (by unfold sf; omega)).trans G.2.2.1, hm, fun s hs => ?_, hc⟩, ?_, A, fun l hl _ => ?_, fun l hl _ => ?_, zl_fr zz z, hd⟩
  · rw [(S.1 s hs).1]; exact G.2.2.2.2.1 s hs
  · refine ⟨fun l hl => ?_, fun s hs => ⟨hp s hs, ?_, ?_⟩⟩
    · rw [hB _ (by unfold sf; omega), hB _ (by unfold sf; omega)]; exact Z.1 l hl
    · rw [hB _ (by unfold sf; omega)]; exact (Z.2 s hs).2.1
    · rw [hB _ (by unfold sf; omega)]; exact (Z.2 s hs).2.2
  · exact lpc_fr (L l hl trivial) (hB _ (by unfold sf; omega)) (hB _ (by unfold sf; omega)) (hB _ (by unfold sf; omega)) (hB _ (by unfold sf; omega)) (hB _ (by unfold sf; omega)) (sm_on S (by omega)) (sm_in S (by omega)) (fun e he _ _ _ => ⟨hB _ (by unfold sf; omega), hB _ (by unfold sf; omega)⟩)
  · refine rlo_fr (R l hl trivial) (fun s => sm_mem S) (fun s => by rw [sm_on S (by omega)]) (fun s _ => ?_) (fun s q => hB _ (by have := q.1; unfold sf; omega)) (fun s q => hN _ (by have := (on_iff.1 q).1.1; omega))
    unfold pty; rw [hB _ (by unfold sf; omega), hB _ (by unfold sf; omega), hB _ (by unfold sf; omega)]
theorem has_none {l : Nat} {c x : Int32} (h : cs_hasC B m l c x = 0) : ∀ s, s < m → s < 16 → B (101 + 8 * s + 1) = nI l → nI s ≠ x → B (101 + 8 * s + 3) ≠ c := fun s hs h16 hh hx e => by
  have h2 : anyF (cs_has B m l c x) 16 0 = true := by
    rw [anyF_iff]
    exact ⟨s, by omega, by omega, by simp [cs_has, mem, hs, hh, e, hx]⟩
  unfold cs_hasC at h
  rw [if_pos h2] at h
  exact absurd h (by decide)
theorem sfs {s k : Nat} (hs : s < 16) (hk : k = 3 ∨ k = 4 ∨ k = 5 ∨ k = 8) : sf (101 + 8 * s + k) := by unfold sf; omega
theorem upd_sf {x : Nat} {v : Int32} (hx : sf x) : ∀ y, ¬ sf y → upd B x v y = B y := fun y hy => upd_ne _ _ (fun e => hy (e ▸ hx))
theorem S_set0 {l s : Nat} {v : Int32} (I : Iv B N n m) (hs : mem B m l s) (h1 : 1 ≤ v) (h2 : v ≤ 14) (h : cs_hasC B m l v (nI s) = 0) : Iv (upd B (101 + 8 * s + 3) v) (upd N (101 + 8 * s + 3) v) n m := by
  have hm := I.1.2.2.2.1
  have hs16 : s < 16 := by have := hs.1; omega
  refine Iv_soft I (upd_sf (sfs hs16 (Or.inl rfl))) (fun t ht => upd_ne _ _ (by omega)) (ag_upd I.2.2.1 _ _) (zfr_upd (Or.inr (by omega))) (fun t ht => ?_) (fun t ht => by rw [upd_ne _ _ (by omega)]; exact (I.2.1.2 t ht).1) (fun a b ha hb hab hh => ?_)
  · by_cases e : t = s
    · subst e; rw [upd_self]; exact ⟨h1, h2⟩
    · rw [upd_ne _ _ (by omega)]; exact I.1.2.2.2.2.2 t ht
  · rw [upd_ne _ _ (by omega), upd_ne _ _ (by omega)] at hh
    by_cases ea : a = s
    · subst ea
      rw [upd_self, upd_ne _ _ (by omega)]
      exact fun e => has_none h b hb (by omega) (hh.symm.trans hs.2) (fun e2 => hab (nI_inj e2 (by omega) (by omega)).symm) e.symm
    · by_cases eb : b = s
      · subst eb
        rw [upd_self, upd_ne _ _ (by omega)]
        exact has_none h a ha (by omega) (hh.trans hs.2) (fun e2 => hab (nI_inj e2 (by omega) (by omega)))
      · rw [upd_ne _ _ (by omega), upd_ne _ _ (by omega)]
        exact I.2.2.2.2.2.2 a b ha hb hab hh
theorem S_soft {x : Nat} {v : Int32} (I : Iv B N n m) (hx : (∃ s, s < 16 ∧ (x = 101 + 8 * s + 4 ∧ (v = 0 ∨ v = 1) ∨ x = 101 + 8 * s + 5)) ∨ x = 230) : Iv (upd B x v) (upd N x v) n m := by
  have hm := I.1.2.2.2.1
  have k3 : ∀ s, s < 16 → x ≠ 101 + 8 * s + 3 ∧ x ≠ 101 + 8 * s + 1 ∧ x ≠ 101 + 8 * s + 7 := fun s _ => by
    rcases hx with ⟨t, _, ⟨h, _⟩ | h⟩ | h <;> omega
  refine Iv_soft I (upd_sf ?_) (fun t ht => upd_ne _ _ (Ne.symm (k3 t (by omega)).2.2)) (ag_upd I.2.2.1 _ _) (zfr_upd (Or.inr (by rcases hx with ⟨t, _, ⟨h, _⟩ | h⟩ | h <;> omega))) (fun t ht => ?_) (fun t ht => ?_) (fun a b ha hb hab hh => ?_)
  · rcases hx with ⟨t, ht, ⟨h, _⟩ | h⟩ | h
    · rw [h]; exact sfs ht (Or.inr (Or.inl rfl))
    · rw [h]; exact sfs ht (Or.inr (Or.inr (Or.inl rfl)))
    · unfold sf; omega
  · rw [upd_ne _ _ (Ne.symm (k3 t (by omega)).1)]; exact I.1.2.2.2.2.2 t ht
  · by_cases e : 101 + 8 * t + 4 = x
    · rw [e, upd_self]
      rcases hx with ⟨s, _, ⟨h, hv⟩ | h⟩ | h
      · exact hv
      · omega
      · omega
    · rw [upd_ne _ _ e]; exact (I.2.1.2 t ht).1
  · rw [upd_ne _ _ (Ne.symm (k3 a (by omega)).2.1), upd_ne _ _ (Ne.symm (k3 b (by omega)).2.1)] at hh
    rw [upd_ne _ _ (Ne.symm (k3 a (by omega)).1), upd_ne _ _ (Ne.symm (k3 b (by omega)).1)]
    exact I.2.2.2.2.2.2 a b ha hb hab hh
end
